import java.util.Arrays;
import java.util.List;

/** The calls of the class with the least and the greatest number that each names. */
final class Call {
    interface On {
        long answer(CapStore x, int[] a);
    }

    private static final int[] DOMAIN = {0, 2};
    private static final int[] IN_ROW = {0, 7};
    private static final int[] NODE = {0, 7};
    private static final int[] PAGE = {8, 11};
    private static final int[] KEY = {0, 48};
    private static final int[] LIMITS = {0, 3};
    private static final int[] POWER = {-1, 63};
    private static final int[] BLOCK = {0, 24};
    private static final int[] ANY = {Integer.MIN_VALUE, Integer.MAX_VALUE};

    static final List<Call> ALL = List.of(
        new Call(2, "place", (x, a) -> x.place(a[0], a[1], a[2]), NODE, IN_ROW, KEY),
        new Call(3, "fetch", (x, a) -> x.fetch(a[0], a[1], a[2], a[3]), DOMAIN, IN_ROW, IN_ROW, IN_ROW),
        new Call(4, "store", (x, a) -> x.store(a[0], a[1], a[2], a[3]), DOMAIN, IN_ROW, IN_ROW, IN_ROW),
        new Call(5, "read", (x, a) -> x.read(a[0], a[1], a[2]), DOMAIN, IN_ROW, IN_ROW),
        new Call(6, "write", (x, a) -> x.write(a[0], a[1], a[2], a[3]), DOMAIN, IN_ROW, IN_ROW, ANY),
        new Call(7, "restrict", (x, a) -> x.restrict(a[0], a[1], a[2], a[3]), DOMAIN, IN_ROW, LIMITS, IN_ROW),
        new Call(8, "clear", (x, a) -> x.clear(a[0], a[1]), DOMAIN, IN_ROW),
        new Call(9, "checkpoint", (x, a) -> x.checkpoint()),
        new Call(10, "power", (x, a) -> x.power(a[0]), POWER),
        new Call(11, "crash", (x, a) -> x.crash() ? 1 : 0),
        new Call(12, "start", (x, a) -> x.start(a[0]), POWER),
        new Call(13, "isUp", (x, a) -> x.isUp() ? 1 : 0),
        new Call(14, "key", (x, a) -> x.key(a[0], a[1]), NODE, IN_ROW),
        new Call(15, "word", (x, a) -> x.word(a[0], a[1]), PAGE, IN_ROW),
        new Call(16, "dirty", (x, a) -> x.dirty()),
        new Call(17, "disk", (x, a) -> x.disk(a[0], a[1]), BLOCK, IN_ROW),
        new Call(18, "writes", (x, a) -> x.writes()),
        new Call(19, "commits", (x, a) -> x.commits()));

    final int promise;
    final String name;
    final int[][] ranges;
    private final On on;

    private Call(int promise, String name, On on, int[]... ranges) {
        this.promise = promise;
        this.name = name;
        this.on = on;
        this.ranges = ranges;
    }

    static Call named(String name) {
        return ALL.stream().filter(c -> c.name.equals(name)).findFirst().orElseThrow();
    }

    long on(CapStore x, int[] a) {
        return on.answer(x, a);
    }

    String text(int[] a) {
        String list = Arrays.toString(a);
        return name + "(" + list.substring(1, list.length() - 1) + ")";
    }
}
