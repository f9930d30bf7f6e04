import java.util.Random;

/** The section "What it is": all is saved or nothing, and the greatest number of calls on one object. */
public final class WhatItIsTest {
    private static final String SECTION = "what it is";
    private static final String WORDS = "An object is used for at most 512 calls after it has been made";
    private static final int MOST = 512;
    /** More than enough for counters and rows that were made for 512 calls to overflow. */
    private static final int LATER = 20000;

    private WhatItIsTest() {
    }

    public static void main(String[] args) {
        Due.test(SECTION + " (promises 9, 12)", "a disk to which the whole of it is saved by checkpoints", WhatItIsTest::theWholeOfIt);
        Due.test(SECTION + " (promises 9, 12)", "power that can fail between any two blocks", WhatItIsTest::oldOrNew);
        for (Call call : Call.ALL) {
            Due.test(SECTION + " (promise " + call.promise + ", " + call.name + ")", WORDS, () -> isTheLast(call));
            Due.test(SECTION + " (promise " + call.promise + ", " + call.name + ")", WORDS, () -> isEachOfThem(call));
        }
        Due.test(SECTION + " (promise 12)", WORDS, WhatItIsTest::crashesAndStarts);
        Due.test(SECTION, "what later calls answer is free", WhatItIsTest::laterCallsDoNotThrow);
        Due.end();
    }

    /** Checkpoints of some objects after another add up: what none of them named is kept as well. */
    private static void theWholeOfIt() {
        for (int set : Scene.sets()) {
            CapStore x = Scene.withDirty(set);
            Due.is("checkpoint() of set " + set, x.checkpoint(), 2 * Integer.bitCount(set) + 2);
            Due.is("crash()", x.crash(), true);
            Due.is("start(0)", x.start(0), 0);
            Scene.memory(" after a crash and a start", x, set);
        }
    }

    /** Power fails in a checkpoint, and again in each start until one has enough: all is old, or all is new. */
    private static void oldOrNew() {
        for (int power = 0; power < 26; power++) {
            for (int again = 0; again <= 12; again++) {
                boolean committed = power >= 13;
                CapStore x = Scene.withDirty(Scene.ALL);
                x.power(power);
                Due.is("checkpoint() with power " + power, x.checkpoint(), -2);
                for (int n = 0; n <= again; n++) {
                    Due.is("start(" + n + ")", x.start(n), committed ? -3 : n == 0 ? 0 : -1);
                }
                Due.is("start(13)", x.start(13), committed ? 13 : -1);
                Scene.memory(" after it with power " + power, x, committed ? Scene.ALL : 0);
            }
        }
    }

    /** Their answers are free, but they come. */
    private static void laterCallsDoNotThrow() {
        Random random = new Random(MOST);
        CapStore x = new CapStore();
        int answered = 0;
        for (int i = 0; i < MOST + LATER; i++) {
            Call call = Call.ALL.get(random.nextInt(Call.ALL.size()));
            int[] a = numbers(call, random);
            if (a.length > 0 && random.nextInt(4) == 0) {
                a[random.nextInt(a.length)] = random.nextInt();
            }
            call.on(x, a);
            answered++;
        }
        Due.is("how many calls answered", answered, MOST + LATER);
    }

    /** 511 calls of all kinds, then this one: its answer is still the one that is due. */
    private static void isTheLast(Call call) {
        for (int seed = 0; seed < 40; seed++) {
            Random random = new Random(seed);
            CapStore x = new CapStore();
            Model model = new Model();
            for (int i = 1; i < MOST; i++) {
                Call filler = Call.ALL.get(random.nextInt(Call.ALL.size()));
                both(i, filler, x, model, numbers(filler, random));
            }
            both(MOST, call, x, model, numbers(call, random));
        }
    }

    /** The same call 512 times, each time with other numbers. */
    private static void isEachOfThem(Call call) {
        Random random = new Random(call.promise);
        CapStore x = new CapStore();
        Model model = new Model();
        for (int i = 1; i <= MOST; i++) {
            both(i, call, x, model, numbers(call, random));
        }
    }

    private static void both(int number, Call call, CapStore x, Model model, int[] a) {
        Due.is("call " + number + ", " + call.text(a), call.on(x, a), model.answer(call, a));
    }

    private static int[] numbers(Call call, Random random) {
        int[] a = new int[call.ranges.length];
        for (int i = 0; i < a.length; i++) {
            int[] range = call.ranges[i];
            long span = (long) range[1] - range[0] + 1;
            a[i] = (int) (range[0] + Math.floorMod(random.nextLong(), span));
        }
        return a;
    }

    private static void crashesAndStarts() {
        CapStore x = new CapStore();
        for (int i = 0; i < MOST / 2; i++) {
            Due.is("crash() number " + i, x.crash(), true);
            Due.is("start(0) number " + i, x.start(0), 0);
        }
    }
}
