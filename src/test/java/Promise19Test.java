/** Promise 19: commits. */
public final class Promise19Test {
    private static final String PROMISE = "promise 19";

    private Promise19Test() {
    }

    public static void main(String[] args) {
        Due.test(PROMISE, "How many checkpoints were committed since the beginning", Promise19Test::nothingCommitted);
        Due.test(PROMISE, "How many checkpoints were committed since the beginning", Promise19Test::wholeCheckpoints);
        Due.test(PROMISE, "How many checkpoints were committed since the beginning", Promise19Test::cutOff);
        Due.test(PROMISE, "How many checkpoints were committed since the beginning", Promise19Test::recoveriesCommitNothing);
        Due.end();
    }

    private static void nothingCommitted() {
        CapStore x = new CapStore();
        Due.is("commits() at the beginning", x.commits(), 0);
        x.checkpoint();
        Due.is("commits() after a checkpoint of nothing", x.commits(), 0);
        x.place(0, 0, 1);
        x.crash();
        x.start(-1);
        Due.is("commits() after a crash and a start", x.commits(), 0);
    }

    private static void wholeCheckpoints() {
        CapStore x = new CapStore();
        for (int i = 1; i <= 150; i++) {
            x.place(i % 8, 0, i % 49);
            x.checkpoint();
            Due.is("commits()", x.commits(), i);
        }
    }

    /** A checkpoint of all 12 objects is committed by its 13th block. */
    private static void cutOff() {
        for (int power = 0; power < 26; power++) {
            CapStore x = Scene.withDirty(Scene.ALL);
            x.power(power);
            x.checkpoint();
            Due.is("commits() after a checkpoint with power " + power, x.commits(), power >= 13 ? 2 : 1);
        }
    }

    private static void recoveriesCommitNothing() {
        CapStore x = Scene.withDirty(Scene.ALL);
        x.power(13);
        x.checkpoint();
        for (int power = 0; power <= 13; power++) {
            x.start(power);
            Due.is("commits() after start(" + power + ")", x.commits(), 2);
        }
        Due.is("isUp()", x.isUp(), true);
        x.checkpoint();
        Due.is("commits() after a checkpoint of nothing", x.commits(), 2);
    }
}
