/** Promise 18: writes. */
public final class Promise18Test {
    private static final String PROMISE = "promise 18";

    private Promise18Test() {
    }

    public static void main(String[] args) {
        Due.test(PROMISE, "How many blocks were written since the beginning", Promise18Test::nothingWritten);
        Due.test(PROMISE, "How many blocks were written since the beginning", Promise18Test::wholeCheckpoints);
        Due.test(PROMISE, "How many blocks were written since the beginning", Promise18Test::cutOff);
        Due.test(PROMISE, "How many blocks were written since the beginning", Promise18Test::mostOfAll);
        Due.end();
    }

    private static void nothingWritten() {
        CapStore x = new CapStore();
        Due.is("writes() at the beginning", x.writes(), 0);
        x.checkpoint();
        x.crash();
        x.start(-1);
        x.place(0, 0, 1);
        x.power(0);
        x.checkpoint();
        x.start(0);
        Due.is("writes() when nothing was written", x.writes(), 0);
    }

    private static void wholeCheckpoints() {
        CapStore x = Scene.withDirty(Scene.ALL);
        Due.is("writes()", x.writes(), 26);
        x.checkpoint();
        Due.is("writes() after a checkpoint of all objects", x.writes(), 52);
        x.checkpoint();
        Due.is("writes() after a checkpoint of nothing", x.writes(), 52);
        x.place(7, 7, 7);
        x.checkpoint();
        Due.is("writes() after a checkpoint of one object", x.writes(), 56);
    }

    /** Blocks that were written before power failed count, in checkpoints and in recoveries; also when DOWN. */
    private static void cutOff() {
        for (int power = 0; power < 26; power++) {
            CapStore x = Scene.withDirty(Scene.ALL);
            x.power(power);
            x.checkpoint();
            Due.is("writes() after a checkpoint with power " + power, x.writes(), 26 + power);
            x.crash();
            x.start(3);
            boolean owing = power >= 13;
            Due.is("writes() after start(3)", x.writes(), 26 + power + (owing ? 3 : 0));
            x.start(-1);
            Due.is("writes() after start(-1)", x.writes(), 26 + power + (owing ? 3 + 13 : 0));
        }
    }

    /** Recoveries that are cut off at their last block write the most; the last call here is the 512th. */
    private static void mostOfAll() {
        CapStore x = new CapStore();
        for (int p = 8; p < 12; p++) {
            x.place(0, p - 8, 1 + 4 * p);
            x.write(0, p - 8, 0, p);
        }
        for (int n = 1; n < 8; n++) {
            x.place(n, 0, 1);
        }
        Due.is("dirty()", x.dirty(), Scene.ALL);
        x.power(13);
        Due.is("checkpoint()", x.checkpoint(), -2);
        for (int i = 0; i < 492; i++) {
            Due.is("start(12) number " + i, x.start(12), -3);
        }
        Due.is("start(13)", x.start(13), 13);
        Due.is("writes()", x.writes(), 13 + 492 * 12 + 13);
    }
}
