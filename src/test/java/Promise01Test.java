/** Promise 1: a new object. */
public final class Promise01Test {
    private static final String PROMISE = "promise 1";

    private Promise01Test() {
    }

    public static void main(String[] args) {
        Due.test(PROMISE, "All keys, words and blocks 0", () -> allIsZero(new CapStore()));
        Due.test(PROMISE, "nothing dirty", () -> Due.is("dirty()", new CapStore().dirty(), 0));
        Due.test(PROMISE, "nothing dirty", Promise01Test::nothingToCheckpoint);
        Due.test(PROMISE, "not DOWN", () -> Due.is("isUp()", new CapStore().isUp(), true));
        Due.test(PROMISE, "not DOWN", () -> Due.is("start(-1)", new CapStore().start(-1), -1));
        Due.test(PROMISE, "POWER endless", Promise01Test::powerIsEndless);
        Due.test(PROMISE, "nothing written or committed", Promise01Test::nothingWritten);
        Due.test(PROMISE, "A new object", Promise01Test::besideAnother);
        Due.end();
    }

    private static void allIsZero(CapStore x) {
        for (int i = 0; i < 8; i++) {
            for (int n = 0; n < 8; n++) {
                Due.is("key(" + n + ", " + i + ")", x.key(n, i), 0);
            }
            for (int p = 8; p < 12; p++) {
                Due.is("word(" + p + ", " + i + ")", x.word(p, i), 0);
            }
            for (int b = 0; b < 25; b++) {
                Due.is("disk(" + b + ", " + i + ")", x.disk(b, i), 0);
            }
        }
    }

    private static void nothingToCheckpoint() {
        CapStore x = new CapStore();
        Due.is("checkpoint()", x.checkpoint(), 0);
        Due.is("writes()", x.writes(), 0);
    }

    /** 255 checkpoints of one object: the most blocks that checkpoints can write in 512 calls. */
    private static void powerIsEndless() {
        CapStore x = new CapStore();
        for (int i = 0; i < 255; i++) {
            x.place(0, 0, 0);
            Due.is("checkpoint() number " + i, x.checkpoint(), 4);
        }
        Due.is("isUp()", x.isUp(), true);
        Due.is("writes()", x.writes(), 1020);
    }

    private static void nothingWritten() {
        CapStore x = new CapStore();
        Due.is("writes()", x.writes(), 0);
        Due.is("commits()", x.commits(), 0);
    }

    /** What one object does is not seen in another, made before or after, and not undone by it. */
    private static void besideAnother() {
        CapStore before = new CapStore();
        CapStore used = new CapStore();
        used.place(0, 0, 45);
        used.write(0, 0, 7, Numbers.LEAST);
        used.checkpoint();
        used.place(7, 7, 48);
        used.power(5);
        isNew(before);
        isNew(new CapStore());
        Scene.counts(" of the used one", used, true, 1 << 7, 6, 1);
        Due.is("key(7, 7) of the used one", used.key(7, 7), 48);
        Due.is("word(11, 7) of the used one", used.word(11, 7), Numbers.LEAST);
        Due.is("disk(11, 7) of the used one", used.disk(11, 7), Numbers.LEAST);
        Due.is("blocks of the used one", Scene.blocksUntilDown(used), 5);
        Due.is("isUp() of the one before", before.isUp(), true);
    }

    private static void isNew(CapStore x) {
        allIsZero(x);
        Scene.counts("", x, true, 0, 0, 0);
        Due.is("blocks", Scene.blocksUntilDown(x), -1);
    }
}
