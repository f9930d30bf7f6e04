/** The term RECOVERY, with power that fails at each single block of one. */
public final class RecoveryTest {
    private static final String TERM = "terms, RECOVERY (promises 12, 16 to 19)";

    private RecoveryTest() {
    }

    public static void main(String[] args) {
        Due.test(TERM, "If the header's set is not 0", RecoveryTest::nothingToRecover);
        Due.test(TERM, "If the header's set is not 0", RecoveryTest::notCommitted);
        Due.test(TERM, "for each object in it, from the least, the words of its log are written to its home", RecoveryTest::cutInHomes);
        Due.test(TERM, "then the header is written with 0", RecoveryTest::cutBeforeTheEnd);
        Due.test(TERM, "then the header is written with 0", () -> recovered(true));
        Due.test(TERM, "Then memory becomes what the homes hold, and the machine is no longer DOWN", () -> recovered(false));
        Due.test(TERM, "Then memory becomes what the homes hold", RecoveryTest::logsOfALaterCheckpoint);
        Due.test(TERM, "for each object in it, from the least", RecoveryTest::againFromTheLeast);
        Due.end();
    }

    /** With no power at all, after a whole checkpoint and with all objects dirty. */
    private static void nothingToRecover() {
        CapStore x = Scene.withDirty(Scene.ALL);
        x.crash();
        Due.is("start(0)", x.start(0), 0);
        Scene.counts("", x, true, 0, Scene.FIRST_WRITES, 1);
        Scene.memory("", x, 0);
        Scene.disk("", x, 0, 0, 0);
    }

    private static void notCommitted() {
        CapStore x = Scene.withDirty(Scene.ALL);
        x.power(12);
        Due.is("checkpoint()", x.checkpoint(), -2);
        Due.is("start(0)", x.start(0), 0);
        Scene.counts("", x, true, 0, Scene.FIRST_WRITES + 12, 1);
        Scene.memory("", x, 0);
        Scene.disk("", x, 0, Scene.ALL, 0);
    }

    private static void cutInHomes() {
        for (int set : Scene.sets()) {
            int n = Integer.bitCount(set);
            for (int homes = 0; homes <= n; homes++) {
                for (int power = 0; power < n; power++) {
                    cutOff(set, homes, power);
                }
            }
        }
    }

    private static void cutBeforeTheEnd() {
        for (int set : Scene.sets()) {
            int n = Integer.bitCount(set);
            for (int homes = 0; homes <= n; homes++) {
                cutOff(set, homes, n);
            }
        }
    }

    /** DOWN with a committed checkpoint of the set, some of whose homes are written. */
    private static CapStore owing(int set, int homes) {
        CapStore x = Scene.withDirty(set);
        x.power(Integer.bitCount(set) + 1 + homes);
        Due.is("checkpoint() of set " + set, x.checkpoint(), -2);
        return x;
    }

    private static CapStore cutStore(int set, int homes, int power) {
        CapStore x = owing(set, homes);
        Due.is("start(" + power + ") of set " + set + " with " + homes + " homes", x.start(power), -3);
        return x;
    }

    /** What is seen when DOWN, and what another start brings back, of two stores: both together are over 512 calls. */
    private static void cutOff(int set, int homes, int power) {
        String when = " after start(" + power + ") of set " + set + " with " + homes + " homes";
        int n = Integer.bitCount(set);
        int writes = Scene.FIRST_WRITES + n + 1 + homes + power;
        CapStore x = cutStore(set, homes, power);
        Scene.counts(when, x, false, -1, writes, 2);
        Scene.disk(when, x, Scene.least(set, Math.max(homes, power)), set, set);
        Scene.noMemory(when, x);

        CapStore y = cutStore(set, homes, power);
        Due.is("another start(-1)" + when, y.start(-1), n + 1);
        Scene.counts(when + " and another", y, true, 0, writes + n + 1, 2);
        Scene.disk(when + " and another", y, set, set, 0);
        Scene.memory(when + " and another", y, set);
    }

    private static void recovered(boolean justEnough) {
        for (int set : Scene.sets()) {
            int n = Integer.bitCount(set);
            for (int homes = 0; homes <= n; homes++) {
                String when = " after a start of set " + set + " with " + homes + " homes";
                CapStore x = owing(set, homes);
                Due.is("start" + when, x.start(justEnough ? n + 1 : -1), n + 1);
                Scene.counts(when, x, true, 0, Scene.FIRST_WRITES + 2 * n + 2 + homes, 2);
                Scene.disk(when, x, set, set, 0);
                Scene.memory(when, x, set);
                Due.is("checkpoint()" + when, x.checkpoint(), 0);
                x.place(0, 0, 0);
                Due.is("another checkpoint()" + when, x.checkpoint(), justEnough ? -2 : 4);
            }
        }
    }

    /** Logs that were written after the last commit belong to no checkpoint: no start brings them back. */
    private static void logsOfALaterCheckpoint() {
        CapStore x = owing(Scene.NODES, 3);
        Due.is("start(-1)", x.start(-1), 9);
        x.place(0, 0, 1);
        x.place(7, 7, 1);
        x.power(2);
        Due.is("checkpoint()", x.checkpoint(), -2);
        Due.is("disk(12, 0)", x.disk(12, 0), 1);
        Due.is("disk(19, 7)", x.disk(19, 7), 1);
        Due.is("start(0)", x.start(0), 0);
        Scene.memory("", x, Scene.NODES);
        Due.is("commits()", x.commits(), 2);
    }

    /** What earlier starts wrote does not count: only enough power at once ends a recovery. */
    private static void againFromTheLeast() {
        CapStore x = owing(Scene.ALL, 0);
        int writes = Scene.FIRST_WRITES + 13;
        for (int power = 0; power <= 12; power++) {
            Due.is("start(" + power + ")", x.start(power), -3);
            Due.is("start(" + power + ") again", x.start(power), -3);
            writes += 2 * power;
            Due.is("writes()", x.writes(), writes);
        }
        Due.is("start(16)", x.start(16), 13);
        Due.is("writes()", x.writes(), writes + 13);
        Scene.memory("", x, Scene.ALL);
        Due.is("blocks with what power is left", Scene.blocksUntilDown(x), 3);
    }
}
