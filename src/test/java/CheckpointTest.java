/** Promises 9 and 16 to 19, with power that fails at each block of a checkpoint. */
public final class CheckpointTest {
    private CheckpointTest() {
    }

    public static void main(String[] args) {
        withoutDirtyObjects();
        whole();
        for (int set : Scene.SETS) {
            int blocks = 2 * Integer.bitCount(set) + 2;
            for (int power = 0; power < blocks; power++) {
                cutOff(set, power);
            }
            justEnough(set, blocks);
        }
        wholeContents();
        diskOutsideItsBounds();
        Due.end();
    }

    private static void withoutDirtyObjects() {
        CapStore x = new CapStore();
        x.power(0);
        Due.is("checkpoint() of nothing without power", x.checkpoint(), 0);
        Due.is("isUp()", x.isUp(), true);
        Due.is("writes()", x.writes(), 0);
        Due.is("commits()", x.commits(), 0);
    }

    private static void whole() {
        for (int set : Scene.SETS) {
            CapStore x = Scene.withDirty(set);
            int blocks = 2 * Integer.bitCount(set) + 2;
            Due.is("checkpoint() of set " + set, x.checkpoint(), blocks);
            isWhole(x, set, blocks);
            Due.is("a second checkpoint()", x.checkpoint(), 0);
            Due.is("commits() after it", x.commits(), 2);
        }
    }

    private static void isWhole(CapStore x, int set, int blocks) {
        String when = "after the checkpoint of set " + set;
        Due.is("dirty() " + when, x.dirty(), 0);
        Due.is("isUp() " + when, x.isUp(), true);
        Due.is("writes() " + when, x.writes(), Scene.FIRST_WRITES + blocks);
        Due.is("commits() " + when, x.commits(), 2);
        Scene.blocks(when, x, 0, set);
        Scene.blocks(when, x, 12, set);
        Scene.header(when, x, 0);
        Scene.memory(when, x, set);
    }

    private static void justEnough(int set, int blocks) {
        CapStore x = Scene.withDirty(set);
        x.power(blocks);
        Due.is("checkpoint() of set " + set + " with power " + blocks, x.checkpoint(), blocks);
        isWhole(x, set, blocks);
        x.place(0, 0, 0);
        Due.is("checkpoint() with the power used up", x.checkpoint(), -2);
        Due.is("isUp()", x.isUp(), false);
    }

    private static void cutOff(int set, int power) {
        String when = "after a checkpoint of set " + set + " with power " + power;
        int n = Integer.bitCount(set);
        boolean committed = power > n;
        int logs = Scene.least(set, power);
        int homes = committed ? Scene.least(set, power - n - 1) : 0;
        CapStore x = Scene.withDirty(set);
        x.power(power);
        Due.is("checkpoint() of set " + set + " with power " + power, x.checkpoint(), -2);
        Due.is("isUp() " + when, x.isUp(), false);
        Due.is("dirty() " + when, x.dirty(), -1);
        Due.is("checkpoint() again " + when, x.checkpoint(), -1);
        Due.is("writes() " + when, x.writes(), Scene.FIRST_WRITES + power);
        Due.is("commits() " + when, x.commits(), committed ? 2 : 1);
        Scene.blocks(when, x, 12, logs);
        Scene.blocks(when, x, 0, homes);
        Scene.header(when, x, committed ? set : 0);
        Due.is("start(-1) " + when, x.start(-1), committed ? n + 1 : 0);
        Scene.memory("and a start " + when, x, committed ? set : 0);
        Scene.blocks("and a start " + when, x, 0, committed ? set : 0);
        Scene.header("and a start " + when, x, 0);
        Due.is("dirty() and a start " + when, x.dirty(), 0);
        Due.is("commits() and a start " + when, x.commits(), committed ? 2 : 1);
    }

    /** All 8 slots of a node and all 8 words of a page, in their order, in home and log. */
    private static void wholeContents() {
        CapStore x = new CapStore();
        x.place(0, 0, 41);
        for (int i = 0; i < 8; i++) {
            x.place(5, i, 10 + i);
            x.write(0, 0, i, -100 - i);
        }
        Due.is("checkpoint()", x.checkpoint(), 8);
        for (int i = 0; i < 8; i++) {
            Due.is("disk(5, " + i + ")", x.disk(5, i), 10 + i);
            Due.is("disk(17, " + i + ")", x.disk(17, i), 10 + i);
            Due.is("disk(10, " + i + ")", x.disk(10, i), -100 - i);
            Due.is("disk(22, " + i + ")", x.disk(22, i), -100 - i);
        }
    }

    /** Homes and logs are filled, so that a number that slips into the next block would show. */
    private static void diskOutsideItsBounds() {
        CapStore x = new CapStore();
        for (int i = 0; i < 8; i++) {
            x.place(0, i, 45);
            x.write(0, i, i, 9);
            x.place(1, i, 9);
        }
        x.power(4);
        Due.is("checkpoint()", x.checkpoint(), -2);
        for (int b : new int[] {Integer.MIN_VALUE, -25, -1, 25, 26, 200, Integer.MAX_VALUE}) {
            for (int i = 0; i < 8; i++) {
                Due.is("disk(" + b + ", " + i + ")", x.disk(b, i), 0);
            }
        }
        for (int i : new int[] {Integer.MIN_VALUE, -8, -1, 8, 9, 200, Integer.MAX_VALUE}) {
            for (int b = 0; b < 25; b++) {
                Due.is("disk(" + b + ", " + i + ")", x.disk(b, i), 0);
            }
        }
    }
}
