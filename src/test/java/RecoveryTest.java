/** Promises 10 to 13, with power that fails at each block of a recovery. */
public final class RecoveryTest {
    private RecoveryTest() {
    }

    public static void main(String[] args) {
        everyPower();
        endlessPowerAgain();
        everyPowerOfStart();
        crashLosesMemory();
        crashWhenDown();
        startWhenUp();
        for (int set : Scene.SETS) {
            int n = Integer.bitCount(set);
            for (int homes = 0; homes <= n; homes++) {
                for (int power = 0; power <= n; power++) {
                    cutOff(set, n + 1 + homes, power);
                }
                justEnough(set, n + 1 + homes, n + 1);
            }
        }
        recoversLittleByLittle();
        Due.end();
    }

    /** Blocks that can be written until the machine is DOWN, in checkpoints of four blocks. */
    private static int blocksUntilDown(CapStore x) {
        int before = x.writes();
        for (int i = 0; i < 20 && x.isUp(); i++) {
            x.place(0, 0, 0);
            x.checkpoint();
        }
        return x.isUp() ? -1 : x.writes() - before;
    }

    private static void everyPower() {
        for (int n = 0; n <= 63; n++) {
            CapStore x = new CapStore();
            Due.is("power(" + n + ")", x.power(n), 0);
            Due.is("isUp() after power(" + n + ")", x.isUp(), true);
            Due.is("blocks with power " + n, blocksUntilDown(x), n);
            Due.is("power(5) when DOWN", x.power(5), -1);
        }
    }

    private static void endlessPowerAgain() {
        CapStore x = new CapStore();
        x.power(0);
        Due.is("power(-1)", x.power(-1), 0);
        Due.is("blocks with power -1", blocksUntilDown(x), -1);
    }

    private static void everyPowerOfStart() {
        for (int n = -1; n <= 63; n++) {
            CapStore x = new CapStore();
            x.power(7);
            x.crash();
            Due.is("start(" + n + ")", x.start(n), 0);
            Due.is("isUp() after start(" + n + ")", x.isUp(), true);
            Due.is("blocks after start(" + n + ")", blocksUntilDown(x), n);
        }
    }

    private static void crashLosesMemory() {
        CapStore x = Scene.withDirty(0b1111_1111_1111);
        Due.is("crash()", x.crash(), true);
        Due.is("isUp() after a crash", x.isUp(), false);
        Scene.blocks("after a crash", x, 0, 0);
        Scene.blocks("after a crash", x, 12, 0);
        Due.is("start(0) after a crash", x.start(0), 0);
        Scene.memory("after a crash and a start", x, 0);
        Due.is("dirty() after a crash and a start", x.dirty(), 0);
        Due.is("writes() after a crash and a start", x.writes(), Scene.FIRST_WRITES);
        Due.is("commits() after a crash and a start", x.commits(), 1);
        Due.is("checkpoint() of nothing without power", x.checkpoint(), 0);
    }

    private static void crashWhenDown() {
        CapStore x = new CapStore();
        Due.is("crash()", x.crash(), true);
        Due.is("crash() when DOWN", x.crash(), false);
        Due.is("start(-1)", x.start(-1), 0);
        Due.is("crash() when up again", x.crash(), true);
    }

    private static void startWhenUp() {
        CapStore x = new CapStore();
        x.place(3, 3, 3);
        x.power(2);
        Due.is("start(9) when up", x.start(9), -1);
        Due.is("start(-2) when up", x.start(-2), -1);
        Due.is("key(3, 3)", x.key(3, 3), 3);
        Due.is("dirty()", x.dirty(), 8);
        Due.is("blocks with power 2", blocksUntilDown(x), 2);
    }

    private static CapStore downAfter(int set, int written) {
        CapStore x = Scene.withDirty(set);
        x.power(written);
        Due.is("checkpoint() of set " + set + " with power " + written, x.checkpoint(), -2);
        return x;
    }

    /** A checkpoint of the set was cut off after it was committed, its recovery has too little power. */
    private static void cutOff(int set, int written, int power) {
        String when = "after start(" + power + ") on set " + set + " cut off after " + written;
        int n = Integer.bitCount(set);
        int homesBefore = Scene.least(set, written - n - 1);
        CapStore x = downAfter(set, written);
        Due.is("start(" + power + ")", x.start(power), -3);
        Due.is("isUp() " + when, x.isUp(), false);
        Due.is("dirty() " + when, x.dirty(), -1);
        Due.is("writes() " + when, x.writes(), Scene.FIRST_WRITES + written + power);
        Due.is("commits() " + when, x.commits(), 2);
        Scene.header(when, x, set);
        Scene.blocks(when, x, 12, set);
        Scene.blocks(when, x, 0, homesBefore | Scene.least(set, power));
        Due.is("start(" + (n + 1) + ") " + when, x.start(n + 1), n + 1);
        Scene.header("and another start " + when, x, 0);
        Scene.memory("and another start " + when, x, set);
    }

    private static void justEnough(int set, int written, int blocks) {
        String when = "after a recovery of set " + set + " cut off after " + written;
        CapStore x = downAfter(set, written);
        Due.is("start(" + blocks + ")", x.start(blocks), blocks);
        Due.is("isUp() " + when, x.isUp(), true);
        Due.is("dirty() " + when, x.dirty(), 0);
        Due.is("writes() " + when, x.writes(), Scene.FIRST_WRITES + written + blocks);
        Due.is("commits() " + when, x.commits(), 2);
        Scene.header(when, x, 0);
        Scene.blocks(when, x, 0, set);
        Scene.blocks(when, x, 12, set);
        Scene.memory(when, x, set);
        Due.is("checkpoint() " + when, x.checkpoint(), 0);
        Due.is("blocks with the power used up " + when, blocksUntilDown(x), 0);
    }

    /** Each start begins with the least object again, so only enough power at once ends it. */
    private static void recoversLittleByLittle() {
        CapStore x = downAfter(0b1111, 5);
        for (int power = 0; power <= 4; power++) {
            Due.is("start(" + power + ")", x.start(power), -3);
            Due.is("start(" + power + ") again", x.start(power), -3);
        }
        Due.is("start(8)", x.start(8), 5);
        Due.is("writes()", x.writes(), Scene.FIRST_WRITES + 5 + 20 + 5);
        Due.is("blocks with what is left", blocksUntilDown(x), 3);
    }
}
