/** Promise 5: read. */
public final class Promise05Test {
    private static final String PROMISE = "promise 5";

    private Promise05Test() {
    }

    public static void main(String[] args) {
        Due.test(PROMISE, "reads word b (0 .. 7) of the page whose key its register a (0 .. 7) has", Promise05Test::everyRegisterAndWord);
        Due.test(PROMISE, "Domain d (0 .. 2) reads", () -> Refused.notNamed("read", 0));
        Due.test(PROMISE, "whose key its register a (0 .. 7) has", () -> Refused.notNamed("read", 1));
        Due.test(PROMISE, "word b (0 .. 7)", () -> Refused.notNamed("read", 2));
        Due.test(PROMISE, "the page whose key its register a (0 .. 7) has", Promise05Test::everyKeyOfAPage);
        Due.test(PROMISE, "the word", Promise05Test::everyKindOfWord);
        Due.test(PROMISE, "Refused: 4294967296 - 1, - 2 or - 3, so 4294967295 .. 4294967293", Promise05Test::refusalsAreNoWords);
        Due.test(PROMISE, "Refused: 4294967296 - 1, - 2 or - 3", Promise05Test::wrongKeys);
        Due.test(PROMISE, "Refused: 4294967296 - 1, - 2 or - 3", () -> Refused.whenDown("read"));
        Due.end();
    }

    private static void everyRegisterAndWord() {
        for (int d = 0; d < 3; d++) {
            for (int a = 0; a < 8; a++) {
                CapStore x = new CapStore();
                x.place(d, a, 41);
                for (int b = 0; b < 8; b++) {
                    x.write(d, a, b, 1000 + b);
                }
                x.checkpoint();
                for (int b = 0; b < 8; b++) {
                    Due.is("read(" + d + ", " + a + ", " + b + ")", x.read(d, a, b), 1000 + b);
                }
                Due.is("dirty() after reads", x.dirty(), 0);
            }
        }
    }

    /** No limit keeps a key from reading. */
    private static void everyKeyOfAPage() {
        CapStore x = new CapStore();
        for (int p = 8; p < 12; p++) {
            x.place(1, 0, 1 + 4 * p);
            x.write(1, 0, 7, 50 + p);
        }
        for (int k = 33; k <= 48; k++) {
            x.place(1, 3, k);
            Due.is("read(1, 3, 7) through " + k, x.read(1, 3, 7), 50 + (k - 1) / 4);
        }
    }

    private static void everyKindOfWord() {
        CapStore x = new CapStore();
        x.place(0, 0, 33);
        for (int v : Numbers.WORDS) {
            x.write(0, 0, 0, v);
            Due.is("read(0, 0, 0) of " + v, x.read(0, 0, 0), v);
        }
    }

    /** The words -1, -2 and -3 look like these refusals in 32 bits, but not as a long. */
    private static void refusalsAreNoWords() {
        CapStore x = new CapStore();
        x.place(0, 0, 45);
        for (int v = -1; v >= -3; v--) {
            x.write(0, 0, 7, v);
            Due.is("read(0, 0, 7) of " + v, x.read(0, 0, 7), v);
        }
        Due.is("read(0, 1, 7) through 0", x.read(0, 1, 7), 4294967293L);
        Due.is("read(0, 0, 8)", x.read(0, 0, 8), 4294967294L);
        x.crash();
        Due.is("read(0, 0, 7) when DOWN", x.read(0, 0, 7), 4294967295L);
    }

    private static void wrongKeys() {
        for (int k = 0; k <= 32; k++) {
            Refused.throughKey("read", k, -3);
        }
    }
}
