/** Promise 8: clear. */
public final class Promise08Test {
    private static final String PROMISE = "promise 8";

    private Promise08Test() {
    }

    public static void main(String[] args) {
        Due.test(PROMISE, "register a (0 .. 7) becomes 0", Promise08Test::everyRegister);
        Due.test(PROMISE, "register a (0 .. 7) becomes 0", Promise08Test::anEmptyRegister);
        Due.test(PROMISE, "Domain d (0 .. 2)", () -> Refused.notNamed("clear", 0));
        Due.test(PROMISE, "register a (0 .. 7)", () -> Refused.notNamed("clear", 1));
        Due.test(PROMISE, "0, or -1, -2", () -> Refused.whenDown("clear"));
        Due.end();
    }

    private static void everyRegister() {
        for (int d = 0; d < 3; d++) {
            for (int a = 0; a < 8; a++) {
                CapStore x = new CapStore();
                for (int i = 0; i < 64; i++) {
                    x.place(i / 8, i % 8, 48);
                }
                x.checkpoint();
                Due.is("clear(" + d + ", " + a + ")", x.clear(d, a), 0);
                Due.is("dirty()", x.dirty(), 1 << d);
                for (int i = 0; i < 64; i++) {
                    Due.is("key(" + i / 8 + ", " + i % 8 + ")", x.key(i / 8, i % 8), i == 8 * d + a ? 0 : 48);
                }
            }
        }
    }

    private static void anEmptyRegister() {
        for (int d = 0; d < 3; d++) {
            CapStore x = new CapStore();
            Due.is("clear(" + d + ", 7) of 0", x.clear(d, 7), 0);
            Due.is("key(" + d + ", 7)", x.key(d, 7), 0);
            Due.is("dirty()", x.dirty(), 1 << d);
        }
    }
}
