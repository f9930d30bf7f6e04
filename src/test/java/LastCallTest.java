import java.util.Random;

/** The section "What it is": the greatest number of calls that the document allows on one object. */
public final class LastCallTest {
    private static final String SECTION = "what it is";
    private static final String WORDS = "An object is used for at most 512 calls after it has been made";
    private static final int MOST = 512;

    private LastCallTest() {
    }

    public static void main(String[] args) {
        for (Call call : Call.ALL) {
            Due.test(SECTION + " (promise " + call.promise + ", " + call.name + ")", WORDS, () -> isTheLast(call));
            Due.test(SECTION + " (promise " + call.promise + ", " + call.name + ")", WORDS, () -> isEachOfThem(call));
        }
        Due.test(SECTION + " (promise 12)", WORDS, LastCallTest::crashesAndStarts);
        Due.end();
    }

    /** 511 calls of all kinds, then this one: its answer is still the one that is due. */
    private static void isTheLast(Call call) {
        for (int seed = 0; seed < 40; seed++) {
            Random random = new Random(seed);
            CapStore x = new CapStore();
            Model model = new Model();
            for (int i = 1; i < MOST; i++) {
                Call filler = Call.ALL.get(random.nextInt(Call.ALL.size()));
                both(i, filler, x, model, numbers(filler, random));
            }
            both(MOST, call, x, model, numbers(call, random));
        }
    }

    /** The same call 512 times, each time with other numbers. */
    private static void isEachOfThem(Call call) {
        Random random = new Random(call.promise);
        CapStore x = new CapStore();
        Model model = new Model();
        for (int i = 1; i <= MOST; i++) {
            both(i, call, x, model, numbers(call, random));
        }
    }

    private static void both(int number, Call call, CapStore x, Model model, int[] a) {
        Due.is("call " + number + ", " + call.text(a), call.on(x, a), model.answer(call, a));
    }

    private static int[] numbers(Call call, Random random) {
        int[] a = new int[call.ranges.length];
        for (int i = 0; i < a.length; i++) {
            int[] range = call.ranges[i];
            long span = (long) range[1] - range[0] + 1;
            a[i] = (int) (range[0] + Math.floorMod(random.nextLong(), span));
        }
        return a;
    }

    private static void crashesAndStarts() {
        CapStore x = new CapStore();
        for (int i = 0; i < MOST / 2; i++) {
            Due.is("crash() number " + i, x.crash(), true);
            Due.is("start(0) number " + i, x.start(0), 0);
        }
    }
}
