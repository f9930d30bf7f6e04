import java.util.ArrayList;
import java.util.List;
import java.util.Set;
import java.util.function.Consumer;

/** The terms DOWN and REFUSALS: every refusal of every call, the first that applies, and that nothing changes. */
public final class RefusalTest {
    private static final Set<String> ALSO_WHEN_DOWN = Set.of("start", "disk", "writes", "commits", "isUp");
    private static final Set<String> ON_NODE = Set.of("fetch", "store");
    private static final Set<String> ON_PAGE = Set.of("read", "write");
    private static final Set<String> CHANGING = Set.of("store", "write");

    private RefusalTest() {
    }

    public static void main(String[] args) {
        Due.test("terms, DOWN (promises 11, 14 to 16)", "While it is DOWN there is no memory", RefusalTest::noMemory);
        for (Call call : Call.ALL) {
            String down = "terms, DOWN (promise " + call.promise + ", " + call.name + ")";
            String refusals = "terms, REFUSALS (promise " + call.promise + ", " + call.name + ")";
            if (ALSO_WHEN_DOWN.contains(call.name)) {
                Due.test(down, "all calls but start, disk, writes, commits, isUp are refused", () -> answersWhenDown(call));
            } else {
                Due.test(down, "all calls but start, disk, writes, commits, isUp are refused", () -> refusedWhenDown(call));
                Due.test(refusals, "the first that applies: -1 the machine is DOWN", () -> downBeforeAllElse(call));
            }
            if (call.ranges.length > 0 && !ALSO_WHEN_DOWN.contains(call.name)) {
                Due.test(refusals, "-2 a number is not one that is named with the call", () -> severalNumbers(call));
            }
            if (ON_NODE.contains(call.name) || ON_PAGE.contains(call.name)) {
                Due.test(refusals, "-2 a number is not one that is named with the call", () -> numbersBeforeKeys(call));
                Due.test(refusals, "-3 the key in the register named is not that of a node (fetch, store) or of a page (read, write)",
                    () -> kindBeforeLimits(call));
                Due.test(refusals, "-4 that key does not write (store, write)", () -> limitsLast(call));
            }
            Due.test(refusals, "A refused call changes nothing", () -> worksInTheScene(call));
        }
        Due.end();
    }

    private static List<Consumer<CapStore>> downScenes() {
        return List.of(Refused::down, Refused::owing, Refused::cut);
    }

    /** What is not on the disk is not there after the next start either. */
    private static void noMemory() {
        for (Consumer<CapStore> scene : downScenes()) {
            CapStore x = new CapStore();
            scene.accept(x);
            Due.is("isUp()", x.isUp(), false);
            Due.is("dirty()", x.dirty(), -1);
            Scene.noMemory(" when DOWN", x);
            x.start(-1);
            for (int i = 0; i < 8; i++) {
                for (int o = 0; o < 12; o++) {
                    Due.is("slot or word " + i + " of object " + o, o < 8 ? x.key(o, i) : x.word(o, i), x.disk(o, i));
                }
            }
        }
    }

    private static long refusedAsDown(Call call) {
        return call.name.equals("crash") ? 0 : Refused.answer(call, -1);
    }

    private static void refusedWhenDown(Call call) {
        for (Consumer<CapStore> scene : downScenes()) {
            Refused.unchanged(call, scene, Refused.working(call), refusedAsDown(call));
        }
    }

    /** The scene wrote 8 blocks in its first checkpoint and 4 in the one that was cut off; node 1 and 3 and page 9 are owed. */
    private static void answersWhenDown(Call call) {
        CapStore x = new CapStore();
        Refused.owing(x);
        long want = switch (call.name) {
            case "start" -> 4;
            case "disk" -> -7;
            case "writes" -> 12;
            case "commits" -> 2;
            default -> 0;
        };
        Due.is(call.text(Refused.working(call)) + " when DOWN", call.on(x, Refused.working(call)), want);
    }

    /** Each number of the call too small or too large, and, with all as they should be, each register. */
    private static List<int[]> wrongOnes(Call call) {
        List<int[]> all = new ArrayList<>();
        for (int i = 0; i < call.ranges.length; i++) {
            for (int wrong : Refused.outside(call, i)) {
                all.add(Refused.working(call, i, wrong));
            }
        }
        for (int register = 0; call.ranges.length > 1 && register < 8; register++) {
            all.add(Refused.working(call, 1, register));
        }
        return all;
    }

    private static void downBeforeAllElse(Call call) {
        Refused.unchanged(call, Refused::down, Refused.working(call), refusedAsDown(call));
        for (Consumer<CapStore> scene : downScenes()) {
            for (int[] a : wrongOnes(call)) {
                CapStore x = new CapStore();
                scene.accept(x);
                Due.is(call.text(a) + " when DOWN", call.on(x, a), refusedAsDown(call));
            }
        }
    }

    /** Two wrong numbers, and all of them wrong, are refused like one. */
    private static void severalNumbers(Call call) {
        for (int end : new int[] {-2, 64, Numbers.LEAST, Numbers.GREATEST}) {
            int[] all = Refused.working(call);
            for (int i = 0; i < all.length; i++) {
                all[i] = end;
                Refused.unchanged(call, Refused::up, all, Refused.answer(call, -2));
            }
        }
    }

    /** A number is wrong beside a register that holds any of the keys, also one that would be refused. */
    private static void numbersBeforeKeys(Call call) {
        for (int register = 0; register < 8; register++) {
            for (int i = 2; i < call.ranges.length; i++) {
                for (int wrong : Refused.outside(call, i)) {
                    int[] a = Refused.working(call, i, wrong);
                    a[1] = register;
                    Refused.unchanged(call, Refused::up, a, Refused.answer(call, -2));
                }
            }
        }
    }

    private static boolean isRightKind(Call call, int k) {
        boolean node = k >= 1 && k <= 32;
        boolean page = k >= 33;
        return ON_NODE.contains(call.name) ? node : page;
    }

    /** Keys of the wrong kind are refused as such, whether they write or not. */
    private static void kindBeforeLimits(Call call) {
        for (int k = 0; k <= 48; k++) {
            if (!isRightKind(call, k)) {
                Refused.throughKey(call.name, k, -3);
            }
        }
    }

    /** Only store and write ask whether the key writes. */
    private static void limitsLast(Call call) {
        for (int k = 1; k <= 48; k++) {
            boolean writes = (k - 1) % 4 == 0;
            if (!isRightKind(call, k)) {
                continue;
            }
            if (CHANGING.contains(call.name) && !writes) {
                Refused.throughKey(call.name, k, -4);
            } else {
                CapStore x = new CapStore();
                x.place(1, 0, k);
                Due.is(call.name + " through " + k, call.on(x, Refused.working(call, 1, 0)), 0);
            }
        }
    }

    /** The scene in which refused calls change nothing is one in which the call, not refused, does its work. */
    private static void worksInTheScene(Call call) {
        CapStore x = new CapStore();
        if (call.name.equals("start")) {
            Refused.down(x);
        } else {
            Refused.up(x);
        }
        long answer = call.on(x, Refused.working(call));
        Due.is(call.text(Refused.working(call)) + " answered " + answer + ", which is a refusal",
            answer >= -4 && answer <= -1 || answer >= 4294967293L, false);
    }
}
