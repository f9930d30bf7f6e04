/** The term A CHECKPOINT, with power that fails at each single block of one. */
public final class CheckpointTest {
    private static final String TERM = "terms, A CHECKPOINT (promises 9, 16 to 19)";

    private CheckpointTest() {
    }

    public static void main(String[] args) {
        Due.test(TERM, "Are no objects dirty, nothing is written", CheckpointTest::nothingDirty);
        Due.test(TERM, "for each dirty object, from the least, its contents are written to its log", () -> eachCut(CheckpointTest::cutInLogs));
        Due.test(TERM, "then the header is written with the set of dirty objects", () -> eachCut(CheckpointTest::cutBeforeCommit));
        Due.test(TERM, "from here on the checkpoint is COMMITTED", () -> eachCut(CheckpointTest::cutAfterCommit));
        Due.test(TERM, "then for each of these objects, from the least, its contents are written to its home",
            () -> eachCut(CheckpointTest::cutInHomes));
        Due.test(TERM, "then the header is written with 0", () -> eachCut(CheckpointTest::cutBeforeTheEnd));
        Due.test(TERM, "then the header is written with 0", () -> eachCut(CheckpointTest::justEnough));
        Due.test(TERM, "then the header is written with 0", () -> eachCut(CheckpointTest::endless));
        Due.end();
    }

    private interface Cut {
        void of(int set, int n);
    }

    private static void eachCut(Cut cut) {
        for (int set : Scene.sets()) {
            cut.of(set, Integer.bitCount(set));
        }
    }

    private static void nothingDirty() {
        CapStore x = Scene.withDirty(0);
        x.power(0);
        Due.is("checkpoint()", x.checkpoint(), 0);
        Scene.counts("", x, true, 0, Scene.FIRST_WRITES, 1);
        Scene.disk("", x, 0, 0, 0);
        Scene.memory("", x, 0);
    }

    private static void cutInLogs(int set, int n) {
        for (int power = 0; power < n; power++) {
            cutOff(set, power, Scene.least(set, power), false, 0);
        }
    }

    private static void cutBeforeCommit(int set, int n) {
        cutOff(set, n, set, false, 0);
    }

    private static void cutAfterCommit(int set, int n) {
        cutOff(set, n + 1, set, true, 0);
    }

    private static void cutInHomes(int set, int n) {
        for (int homes = 1; homes < n; homes++) {
            cutOff(set, n + 1 + homes, set, true, Scene.least(set, homes));
        }
    }

    private static void cutBeforeTheEnd(int set, int n) {
        cutOff(set, 2 * n + 1, set, true, set);
    }

    /** What is seen when DOWN, and what a start brings back, of two stores: both together are over 512 calls. */
    private static void cutOff(int set, int power, int logs, boolean committed, int homes) {
        String when = " after a checkpoint of set " + set + " with power " + power;
        int commits = committed ? 2 : 1;
        CapStore x = cutStore(set, power);
        Scene.counts(when, x, false, -1, Scene.FIRST_WRITES + power, commits);
        Scene.disk(when, x, homes, logs, committed ? set : 0);
        Scene.noMemory(when, x);

        CapStore y = cutStore(set, power);
        int recovered = committed ? Integer.bitCount(set) + 1 : 0;
        int kept = committed ? set : 0;
        Due.is("start(-1)" + when, y.start(-1), recovered);
        Scene.counts(when + " and a start", y, true, 0, Scene.FIRST_WRITES + power + recovered, commits);
        Scene.disk(when + " and a start", y, kept, logs, 0);
        Scene.memory(when + " and a start", y, kept);
    }

    private static CapStore cutStore(int set, int power) {
        CapStore x = Scene.withDirty(set);
        x.power(power);
        Due.is("checkpoint() of set " + set + " with power " + power, x.checkpoint(), -2);
        return x;
    }

    private static void justEnough(int set, int n) {
        whole(set, 2 * n + 2, true);
    }

    private static void endless(int set, int n) {
        whole(set, 2 * n + 2, false);
    }

    private static void whole(int set, int blocks, boolean justEnough) {
        String when = " after the checkpoint of set " + set;
        CapStore x = Scene.withDirty(set);
        x.power(justEnough ? blocks : -1);
        Due.is("dirty() before it", x.dirty(), set);
        Due.is("checkpoint()", x.checkpoint(), blocks);
        Scene.counts(when, x, true, 0, Scene.FIRST_WRITES + blocks, 2);
        Scene.disk(when, x, set, set, 0);
        Scene.memory(when, x, set);
        Due.is("checkpoint()" + when, x.checkpoint(), 0);
        x.place(0, 0, 0);
        Due.is("another checkpoint()" + when, x.checkpoint(), justEnough ? -2 : 4);
    }
}
