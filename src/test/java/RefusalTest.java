import java.util.Set;
import java.util.TreeSet;
import java.util.function.Consumer;

/** The refusals of every call, the first that applies, and that a refused call changes nothing. */
public final class RefusalTest {
    private static final Set<String> WIDE = Set.of("read", "word");
    private static final Set<String> ALSO_DOWN = Set.of("start", "disk", "writes", "commits", "isUp");
    private static final Set<String> ON_NODE = Set.of("fetch", "store");
    private static final Set<String> ON_PAGE = Set.of("read", "write");
    /** Keys of node 6, of page 9, and the empty key, in registers of domain 1. */
    private static final int[] REGISTERS = {25, 26, 27, 28, 37, 38, 39, 0};

    private RefusalTest() {
    }

    public static void main(String[] args) {
        for (Call call : Call.ALL) {
            if (!call.name.equals("start")) {
                whenDown(call);
                numbersNotNamed(call);
            }
            leastAndGreatest(call);
        }
        start();
        keysOfTheWrongKind();
        keysThatDoNotWrite();
        Due.end();
    }

    /** Something committed, something dirty, and some power left. */
    private static void scene(CapStore x) {
        x.place(1, 0, 37);
        x.write(1, 0, 3, -7);
        x.place(6, 2, 48);
        x.checkpoint();
        for (int a = 0; a < 8; a++) {
            x.place(1, a, REGISTERS[a]);
        }
        x.write(1, 4, 3, 8);
        x.power(41);
    }

    private static void downScene(CapStore x) {
        scene(x);
        x.crash();
    }

    /** A committed checkpoint that the homes do not have yet. */
    private static void owingScene(CapStore x) {
        scene(x);
        x.power(3);
        x.checkpoint();
    }

    private static long refusal(Call call, int code) {
        return WIDE.contains(call.name) ? 4294967296L + code : code;
    }

    private static void unchanged(Call call, Consumer<CapStore> scene, int[] a, long want) {
        Snapshot.unchanged(call.text(a), scene, x -> call.on(x, a), want);
    }

    private static int[] leastOf(Call call) {
        int[] a = new int[call.ranges.length];
        for (int i = 0; i < a.length; i++) {
            a[i] = call.ranges[i][0];
        }
        return a;
    }

    private static Set<Integer> wrongNumbers(int[] range) {
        Set<Integer> wrong = new TreeSet<>();
        if (range[0] != Integer.MIN_VALUE) {
            wrong.addAll(Set.of(range[0] - 1, range[1] + 1, Integer.MIN_VALUE, Integer.MAX_VALUE));
        }
        return wrong;
    }

    private static void whenDown(Call call) {
        if (ALSO_DOWN.contains(call.name)) {
            return;
        }
        long want = call.name.equals("crash") ? 0 : refusal(call, -1);
        int[] a = leastOf(call);
        unchanged(call, RefusalTest::downScene, a, want);
        unchanged(call, RefusalTest::owingScene, a, want);
        for (int i = 0; i < a.length; i++) {
            for (int wrong : wrongNumbers(call.ranges[i])) {
                int[] b = a.clone();
                b[i] = wrong;
                unchanged(call, RefusalTest::downScene, b, want);
            }
        }
    }

    /** Whatever key the register has: a wrong number comes before a wrong key. */
    private static void numbersNotNamed(Call call) {
        long want = call.name.equals("disk") ? 0 : refusal(call, -2);
        for (int i = 0; i < call.ranges.length; i++) {
            for (int wrong : wrongNumbers(call.ranges[i])) {
                int[] a = leastOf(call);
                a[i] = wrong;
                unchanged(call, RefusalTest::scene, a, want);
                if (i > 1 && (ON_NODE.contains(call.name) || ON_PAGE.contains(call.name))) {
                    withEveryRegister(call, a, want);
                }
            }
        }
    }

    private static void withEveryRegister(Call call, int[] numbers, long want) {
        for (int register = 0; register < 8; register++) {
            int[] a = numbers.clone();
            a[0] = 1;
            a[1] = register;
            unchanged(call, RefusalTest::scene, a, want);
        }
    }

    private static void leastAndGreatest(Call call) {
        for (int i = 0; i < call.ranges.length; i++) {
            for (int bound : call.ranges[i]) {
                int[] a = leastOf(call);
                a[i] = bound;
                CapStore x = new CapStore();
                for (int d = 0; d < 3; d++) {
                    for (int s = 0; s < 8; s++) {
                        x.place(d, s, ON_PAGE.contains(call.name) ? 45 : 29);
                    }
                }
                boolean start = call.name.equals("start");
                if (start) {
                    x.crash();
                }
                boolean answersKey = call.name.equals("key");
                boolean filled = answersKey && a[0] < 3;
                Due.is(call.text(a), call.on(x, a), filled ? 29 : 0);
            }
        }
    }

    private static void start() {
        Call start = Call.named("start");
        int[] numbers = {-1, 0, 63, -2, 64, Integer.MIN_VALUE, Integer.MAX_VALUE};
        for (int n : numbers) {
            int[] a = {n};
            unchanged(start, RefusalTest::scene, a, -1);
            if (n < -1 || n > 63) {
                unchanged(start, RefusalTest::downScene, a, -2);
                unchanged(start, RefusalTest::owingScene, a, -2);
            }
        }
    }

    private static void keysOfTheWrongKind() {
        for (String name : new String[] {"fetch", "store", "read", "write"}) {
            Call call = Call.named(name);
            for (int register = 0; register < 8; register++) {
                boolean node = register < 4;
                boolean page = register >= 4 && register < 7;
                if (ON_NODE.contains(name) ? !node : !page) {
                    unchanged(call, RefusalTest::scene, with(call, register), refusal(call, -3));
                }
            }
        }
    }

    private static void keysThatDoNotWrite() {
        for (int register : new int[] {1, 2, 3}) {
            Call store = Call.named("store");
            unchanged(store, RefusalTest::scene, with(store, register), -4);
        }
        for (int register : new int[] {5, 6}) {
            Call write = Call.named("write");
            unchanged(write, RefusalTest::scene, with(write, register), -4);
        }
    }

    private static int[] with(Call call, int register) {
        int[] a = leastOf(call);
        a[0] = 1;
        a[1] = register;
        return a;
    }
}
