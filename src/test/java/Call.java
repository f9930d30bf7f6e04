import java.util.Arrays;
import java.util.List;

/** The calls of the class with the least and the greatest number that each names. */
final class Call {
    interface On {
        long answer(CapStore x, int[] a);
    }

    private static final int[] DOMAIN = {0, 2};
    private static final int[] IN_ROW = {0, 7};
    private static final int[] NODE = {0, 7};
    private static final int[] PAGE = {8, 11};
    private static final int[] KEY = {0, 48};
    private static final int[] LIMITS = {0, 3};
    private static final int[] POWER = {-1, 63};
    private static final int[] BLOCK = {0, 24};
    private static final int[] ANY = {Integer.MIN_VALUE, Integer.MAX_VALUE};

    static final List<Call> ALL = List.of(
        new Call("place", (x, a) -> x.place(a[0], a[1], a[2]), NODE, IN_ROW, KEY),
        new Call("fetch", (x, a) -> x.fetch(a[0], a[1], a[2], a[3]), DOMAIN, IN_ROW, IN_ROW, IN_ROW),
        new Call("store", (x, a) -> x.store(a[0], a[1], a[2], a[3]), DOMAIN, IN_ROW, IN_ROW, IN_ROW),
        new Call("read", (x, a) -> x.read(a[0], a[1], a[2]), DOMAIN, IN_ROW, IN_ROW),
        new Call("write", (x, a) -> x.write(a[0], a[1], a[2], a[3]), DOMAIN, IN_ROW, IN_ROW, ANY),
        new Call("restrict", (x, a) -> x.restrict(a[0], a[1], a[2], a[3]), DOMAIN, IN_ROW, LIMITS, IN_ROW),
        new Call("clear", (x, a) -> x.clear(a[0], a[1]), DOMAIN, IN_ROW),
        new Call("checkpoint", (x, a) -> x.checkpoint()),
        new Call("power", (x, a) -> x.power(a[0]), POWER),
        new Call("crash", (x, a) -> x.crash() ? 1 : 0),
        new Call("start", (x, a) -> x.start(a[0]), POWER),
        new Call("isUp", (x, a) -> x.isUp() ? 1 : 0),
        new Call("key", (x, a) -> x.key(a[0], a[1]), NODE, IN_ROW),
        new Call("word", (x, a) -> x.word(a[0], a[1]), PAGE, IN_ROW),
        new Call("dirty", (x, a) -> x.dirty()),
        new Call("disk", (x, a) -> x.disk(a[0], a[1]), BLOCK, IN_ROW),
        new Call("writes", (x, a) -> x.writes()),
        new Call("commits", (x, a) -> x.commits()));

    final String name;
    final int[][] ranges;
    private final On on;

    private Call(String name, On on, int[]... ranges) {
        this.name = name;
        this.on = on;
        this.ranges = ranges;
    }

    static Call named(String name) {
        return ALL.stream().filter(c -> c.name.equals(name)).findFirst().orElseThrow();
    }

    long on(CapStore x, int[] a) {
        return on.answer(x, a);
    }

    String text(int[] a) {
        String list = Arrays.toString(a);
        return name + "(" + list.substring(1, list.length() - 1) + ")";
    }
}
