import java.util.Map;
import java.util.Set;
import java.util.TreeSet;
import java.util.function.Consumer;

/** Scenes in which every call could do its work, and checks that a refused call left them as they were. */
final class Refused {
    /** Keys of node 6, of page 9, and the empty key, in the registers of domain 1. */
    static final int[] REGISTERS = {25, 26, 27, 28, 37, 38, 39, 0};
    private static final Set<String> ABOVE_WORDS = Set.of("read", "word");
    private static final Map<String, int[]> WORKING = Map.ofEntries(
        Map.entry("place", new int[] {6, 2, 5}), Map.entry("fetch", new int[] {1, 0, 2, 7}),
        Map.entry("store", new int[] {1, 0, 2, 4}), Map.entry("read", new int[] {1, 4, 3}),
        Map.entry("write", new int[] {1, 4, 3, 5}), Map.entry("restrict", new int[] {1, 4, 1, 7}),
        Map.entry("clear", new int[] {1, 4}), Map.entry("power", new int[] {9}),
        Map.entry("start", new int[] {9}), Map.entry("key", new int[] {6, 2}),
        Map.entry("word", new int[] {9, 3}), Map.entry("disk", new int[] {9, 3}));

    private Refused() {
    }

    /**
     * Something committed, something dirty, and some power left. Node 3 is no domain, but its slots
     * hold what a domain's registers do, so that a call of domain 3 would be noticed.
     */
    static void up(CapStore x) {
        x.place(1, 0, 37);
        x.write(1, 0, 3, -7);
        x.place(6, 2, 48);
        x.checkpoint();
        for (int a = 0; a < 8; a++) {
            x.place(1, a, REGISTERS[a]);
            x.place(3, a, REGISTERS[a]);
        }
        x.write(1, 4, 3, 8);
        x.power(41);
    }

    static void down(CapStore x) {
        up(x);
        x.crash();
    }

    /** DOWN with a checkpoint that is committed, while its homes are still the old ones. */
    static void owing(CapStore x) {
        up(x);
        x.power(4);
        x.checkpoint();
    }

    /** DOWN because power failed before the checkpoint was committed. */
    static void cut(CapStore x) {
        up(x);
        x.power(2);
        x.checkpoint();
    }

    /** Numbers with which nothing but DOWN (or, for start, not DOWN) can refuse the call in these scenes. */
    static int[] working(Call call) {
        return WORKING.getOrDefault(call.name, new int[0]).clone();
    }

    static int[] working(Call call, int i, int number) {
        int[] a = working(call);
        a[i] = number;
        return a;
    }

    static TreeSet<Integer> outside(Call call, int i) {
        boolean any = call.ranges[i][0] == Numbers.LEAST;
        return any ? new TreeSet<>() : Numbers.outside(call.ranges[i][0], call.ranges[i][1]);
    }

    static long answer(Call call, int refusal) {
        return ABOVE_WORDS.contains(call.name) ? 4294967296L + refusal : refusal;
    }

    static void unchanged(Call call, Consumer<CapStore> scene, int[] a, long want) {
        Snapshot.unchanged(call.text(a), scene, x -> call.on(x, a), want);
    }

    /** The i-th number of the call, and it alone, is too small or too large. */
    static void notNamed(String name, int i) {
        Call call = Call.named(name);
        boolean whenDown = name.equals("start");
        for (int wrong : outside(call, i)) {
            unchanged(call, whenDown ? Refused::down : Refused::up, working(call, i, wrong), answer(call, -2));
        }
    }

    /** DOWN in each of the ways to come there. */
    static void whenDown(String name) {
        Call call = Call.named(name);
        unchanged(call, Refused::down, working(call), answer(call, -1));
        unchanged(call, Refused::owing, working(call), answer(call, -1));
        unchanged(call, Refused::cut, working(call), answer(call, -1));
    }

    /** Register 0 of domain 1 has key k, which refuses the call. */
    static void throughKey(String name, int k, int refusal) {
        Call call = Call.named(name);
        Consumer<CapStore> scene = x -> {
            up(x);
            x.place(1, 0, k);
        };
        unchanged(call, scene, working(call, 1, 0), answer(call, refusal));
    }
}
