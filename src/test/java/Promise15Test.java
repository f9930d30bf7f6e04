/** Promise 15: word. */
public final class Promise15Test {
    private static final String PROMISE = "promise 15";

    private Promise15Test() {
    }

    public static void main(String[] args) {
        Due.test(PROMISE, "Word i (0 .. 7) of page p (8 .. 11)", Promise15Test::everyWord);
        Due.test(PROMISE, "Word i (0 .. 7) of page p (8 .. 11)", Promise15Test::everyKindOfWord);
        Due.test(PROMISE, "4294967295 if DOWN", () -> Refused.whenDown("word"));
        Due.test(PROMISE, "4294967295 if DOWN", Promise15Test::downBeforeWrongNumbers);
        Due.test(PROMISE, "4294967294 if there is no such word", () -> Refused.notNamed("word", 0));
        Due.test(PROMISE, "4294967294 if there is no such word", () -> Refused.notNamed("word", 1));
        Due.test(PROMISE, "4294967294 if there is no such word", Promise15Test::nodesHaveNoWords);
        Due.end();
    }

    private static void everyWord() {
        CapStore x = new CapStore();
        for (int i = 0; i < 32; i++) {
            x.place(0, 0, 33 + 4 * (i / 8));
            x.write(0, 0, i % 8, 70 + i);
        }
        x.checkpoint();
        for (int i = 0; i < 32; i++) {
            Due.is("word(" + (8 + i / 8) + ", " + i % 8 + ")", x.word(8 + i / 8, i % 8), 70 + i);
        }
        Due.is("dirty() after it", x.dirty(), 0);
    }

    /** The words -1 and -2 look like the refusals in 32 bits, but not as a long. */
    private static void everyKindOfWord() {
        CapStore x = new CapStore();
        x.place(0, 0, 45);
        for (int v : Numbers.WORDS) {
            x.write(0, 0, 7, v);
            Due.is("word(11, 7) of " + v, x.word(11, 7), v);
        }
    }

    private static void downBeforeWrongNumbers() {
        CapStore x = new CapStore();
        x.crash();
        for (int p : Numbers.outside(8, 11)) {
            Due.is("word(" + p + ", 0)", x.word(p, 0), 4294967295L);
        }
        for (int i : Numbers.outside(0, 7)) {
            Due.is("word(8, " + i + ")", x.word(8, i), 4294967295L);
        }
    }

    private static void nodesHaveNoWords() {
        CapStore x = new CapStore();
        for (int n = 0; n < 8; n++) {
            x.place(n, 7, 48);
            Due.is("word(" + n + ", 7)", x.word(n, 7), 4294967294L);
        }
    }
}
