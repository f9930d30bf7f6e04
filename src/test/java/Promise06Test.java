/** Promise 6: write. */
public final class Promise06Test {
    private static final String PROMISE = "promise 6";

    private Promise06Test() {
    }

    public static void main(String[] args) {
        Due.test(PROMISE, "word b (0 .. 7) of the page whose key its register a (0 .. 7) has, which writes, becomes v",
            Promise06Test::everyRegisterAndWord);
        Due.test(PROMISE, "Domain d (0 .. 2) writes", () -> Refused.notNamed("write", 0));
        Due.test(PROMISE, "whose key its register a (0 .. 7) has", () -> Refused.notNamed("write", 1));
        Due.test(PROMISE, "word b (0 .. 7)", () -> Refused.notNamed("write", 2));
        Due.test(PROMISE, "becomes v", Promise06Test::everyKindOfWord);
        Due.test(PROMISE, "the page whose key its register a (0 .. 7) has", Promise06Test::everyPage);
        Due.test(PROMISE, "0, or -1, -2, -3, -4", Promise06Test::wrongKeys);
        Due.test(PROMISE, "0, or -1, -2, -3, -4", () -> Refused.whenDown("write"));
        Due.end();
    }

    /** Word b of page 10 becomes 9; its other words stay 5, and the registers stay as they are. */
    private static void everyRegisterAndWord() {
        for (int d = 0; d < 3; d++) {
            for (int i = 0; i < 64; i++) {
                int a = i / 8;
                int b = i % 8;
                CapStore x = new CapStore();
                x.place(d, a, 41);
                for (int w = 0; w < 8; w++) {
                    x.write(d, a, w, 5);
                }
                x.checkpoint();
                String call = "write(" + d + ", " + a + ", " + b + ", 9)";
                Due.is(call, x.write(d, a, b, 9), 0);
                for (int w = 0; w < 8; w++) {
                    Due.is("word(10, " + w + ") after " + call, x.word(10, w), w == b ? 9 : 5);
                    Due.is("register " + w + " after " + call, x.key(d, w), w == a ? 41 : 0);
                }
                Due.is("dirty() after " + call, x.dirty(), 1 << 10);
            }
        }
    }

    /** No word counts as a wrong number, and a word that is written again makes the page dirty again. */
    private static void everyKindOfWord() {
        for (int v : Numbers.WORDS) {
            CapStore x = new CapStore();
            x.place(2, 7, 45);
            Due.is("write(2, 7, 7, " + v + ")", x.write(2, 7, 7, v), 0);
            Due.is("word(11, 7)", x.word(11, 7), v);
            Due.is("read(2, 7, 7)", x.read(2, 7, 7), v);
            x.checkpoint();
            Due.is("disk(11, 7)", x.disk(11, 7), v);
            Due.is("write(2, 7, 7, " + v + ") again", x.write(2, 7, 7, v), 0);
            Due.is("dirty() after it", x.dirty(), 1 << 11);
        }
    }

    private static void everyPage() {
        for (int p = 8; p < 12; p++) {
            CapStore x = new CapStore();
            x.place(0, 4, 1 + 4 * p);
            x.checkpoint();
            Due.is("write(0, 4, 0, -1) in page " + p, x.write(0, 4, 0, -1), 0);
            Due.is("dirty()", x.dirty(), 1 << p);
            for (int q = 8; q < 12; q++) {
                Due.is("word(" + q + ", 0)", x.word(q, 0), q == p ? -1 : 0);
            }
        }
    }

    private static void wrongKeys() {
        for (int k = 0; k <= 48; k++) {
            boolean page = k >= 33;
            boolean writes = page && k % 4 == 1;
            if (!writes) {
                Refused.throughKey("write", k, page ? -4 : -3);
            }
        }
    }
}
