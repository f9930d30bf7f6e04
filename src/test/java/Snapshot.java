import java.util.Arrays;
import java.util.function.Consumer;
import java.util.function.ToLongFunction;

/**
 * All that can be seen of a store. Taking one uses up the store: it spends its power, and two would
 * not fit into the 512 calls that the document promises for one object.
 */
final class Snapshot {
    private final long[] seen = new long[400];
    private int count = 0;

    private Snapshot(CapStore x) {
        see(x.isUp() ? 1 : 0);
        see(x.dirty());
        see(x.writes());
        see(x.commits());
        seeDisk(x);
        if (!x.isUp()) {
            see(x.start(-1));
            see(x.writes());
        }
        seeMemory(x);
        seePower(x);
    }

    private void see(long answer) {
        seen[count++] = answer;
    }

    private void seeDisk(CapStore x) {
        for (int b = 0; b < 25; b++) {
            for (int i = 0; i < 8; i++) {
                see(x.disk(b, i));
            }
        }
    }

    private void seeMemory(CapStore x) {
        for (int o = 0; o < 12; o++) {
            for (int i = 0; i < 8; i++) {
                see(o < 8 ? x.key(o, i) : x.word(o, i));
            }
        }
    }

    /** 17 checkpoints write 68 blocks, so only endless power outlasts them. */
    private void seePower(CapStore x) {
        for (int i = 0; i < 17; i++) {
            x.place(0, 0, 0);
            x.checkpoint();
        }
        see(x.isUp() ? 1 : 0);
        see(x.writes());
    }

    /** Where two stores that were made by two scripts first differ, or -1. */
    static int difference(Consumer<CapStore> one, Consumer<CapStore> other) {
        return Arrays.mismatch(after(one), after(other));
    }

    private static long[] after(Consumer<CapStore> script) {
        CapStore x = new CapStore();
        script.accept(x);
        return new Snapshot(x).seen;
    }

    /** Checks that a call after the script answers what is due and leaves all as it was. */
    static void unchanged(String text, Consumer<CapStore> script, ToLongFunction<CapStore> call, long want) {
        Consumer<CapStore> scriptAndCall = x -> {
            script.accept(x);
            Due.is(text, call.applyAsLong(x), want);
        };
        Due.is("what " + text + " changed", difference(script, scriptAndCall), -1);
    }
}
