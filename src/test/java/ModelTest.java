import java.util.Map;
import java.util.Random;
import java.util.TreeMap;

/** All promises: long runs of chosen calls, each answer held against the model's. */
public final class ModelTest {
    private static final int RUNS = 6000;
    private static final int CALLS_OF_RUN = 512;
    private static final Map<String, Integer> SEEN = new TreeMap<>();
    /** A call stands here as often as it is to be drawn; the rare ones end what the others built. */
    private static final String[] DRAWN = {
        "place", "place", "place", "place", "fetch", "fetch", "fetch", "fetch", "store", "store", "store",
        "read", "read", "read", "write", "write", "write", "write", "restrict", "restrict", "clear",
        "checkpoint", "checkpoint", "power", "crash", "start", "start", "start", "isUp", "key", "key",
        "word", "word", "dirty", "dirty", "disk", "disk", "disk", "writes", "commits"};

    private ModelTest() {
    }

    public static void main(String[] args) {
        Random random = new Random(20261116L);
        for (int run = 0; run < RUNS; run++) {
            oneRun(run, random);
        }
        everyAnswerWasSeen();
        Due.end();
    }

    private static void oneRun(int run, Random random) {
        CapStore x = new CapStore();
        Model model = new Model();
        for (int i = 0; i < CALLS_OF_RUN; i++) {
            Call call = Call.named(DRAWN[random.nextInt(DRAWN.length)]);
            int[] a = numbers(call, random);
            long want = model.answer(call, a);
            Due.is("run " + run + ", call " + i + ": " + call.text(a), call.on(x, a), want);
            SEEN.merge(call.name + " " + kind(want), 1, Integer::sum);
        }
    }

    private static int[] numbers(Call call, Random random) {
        int[] a = new int[call.ranges.length];
        for (int i = 0; i < a.length; i++) {
            a[i] = number(call.ranges[i], random);
        }
        return a;
    }

    private static int number(int[] range, Random random) {
        long span = (long) range[1] - range[0] + 1;
        switch (random.nextInt(120)) {
            case 0: return range[0] - 1;
            case 1: return range[1] + 1;
            case 2: return random.nextInt();
            case 3: return range[0];
            case 4: return range[1];
            // few registers, so that later calls meet what earlier ones stored
            default: return (int) (range[0] + Math.floorMod(random.nextLong(), random.nextBoolean() ? Math.min(span, 3) : span));
        }
    }

    private static String kind(long answer) {
        long code = answer > Integer.MAX_VALUE ? answer - (1L << 32) : answer;
        return code < 0 && code >= -4 ? Long.toString(code) : "done";
    }

    /** Runs that never came to a refusal would not have tested it. */
    private static void everyAnswerWasSeen() {
        String[] due = {
            "place done", "place -1", "place -2", "fetch done", "fetch -1", "fetch -2", "fetch -3",
            "store done", "store -1", "store -2", "store -3", "store -4", "read done", "read -1", "read -2",
            "read -3", "write done", "write -1", "write -2", "write -3", "write -4", "restrict done",
            "restrict -1", "restrict -2", "clear done", "clear -1", "clear -2", "checkpoint done",
            "checkpoint -1", "checkpoint -2", "power done", "power -1", "power -2", "crash done",
            "start done", "start -1", "start -2", "start -3", "key done", "key -1", "key -2", "word done",
            "word -1", "word -2", "dirty done", "dirty -1", "disk done"};
        for (String answer : due) {
            Due.is("whether the runs saw " + answer + " 100 times", SEEN.getOrDefault(answer, 0) >= 100, true);
        }
    }
}
