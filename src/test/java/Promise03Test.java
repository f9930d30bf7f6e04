/** Promise 3: fetch. */
public final class Promise03Test {
    private static final String PROMISE = "promise 3";

    private Promise03Test() {
    }

    public static void main(String[] args) {
        Due.test(PROMISE, "register c (0 .. 7) becomes the key in slot b (0 .. 7) of that node", Promise03Test::everyRegisterAndSlot);
        Due.test(PROMISE, "Domain d (0 .. 2) fetches", () -> Refused.notNamed("fetch", 0));
        Due.test(PROMISE, "its register a (0 .. 7) has the key of a node", () -> Refused.notNamed("fetch", 1));
        Due.test(PROMISE, "the key in slot b (0 .. 7) of that node", () -> Refused.notNamed("fetch", 2));
        Due.test(PROMISE, "register c (0 .. 7)", () -> Refused.notNamed("fetch", 3));
        Due.test(PROMISE, "its register a (0 .. 7) has the key of a node", () -> everyKeyThroughLimits(0, 1));
        Due.test(PROMISE, "diminished if the key in register a is weak", () -> everyKeyThroughLimits(2, 3));
        Due.test(PROMISE, "diminished if the key in register a is weak", Promise03Test::theEmptyKey);
        Due.test(PROMISE, "register c (0 .. 7) becomes the key", Promise03Test::intoTheRegisterOfTheKey);
        Due.test(PROMISE, "register c (0 .. 7) becomes the key", Promise03Test::intoTheSlotThatIsFetched);
        Due.test(PROMISE, "0, or -1, -2, -3", Promise03Test::wrongKeys);
        Due.test(PROMISE, "0, or -1, -2, -3", () -> Refused.whenDown("fetch"));
        Due.end();
    }

    /** Key 46 goes from slot b of node 7 to register c; the other registers keep 47, or the key of node 7. */
    private static void everyRegisterAndSlot() {
        for (int d = 0; d < 3; d++) {
            for (int i = 0; i < 512; i++) {
                int a = i / 64;
                int b = i / 8 % 8;
                int c = i % 8;
                CapStore x = new CapStore();
                for (int r = 0; r < 8; r++) {
                    x.place(d, r, r == a ? 29 : 47);
                }
                x.place(7, b, 46);
                x.checkpoint();
                String call = "fetch(" + d + ", " + a + ", " + b + ", " + c + ")";
                Due.is(call, x.fetch(d, a, b, c), 0);
                for (int r = 0; r < 8; r++) {
                    Due.is("register " + r + " after " + call, x.key(d, r), r == c ? 46 : r == a ? 29 : 47);
                    Due.is("key(7, " + r + ") after " + call, x.key(7, r), r == b ? 46 : 0);
                }
                Due.is("dirty() after " + call, x.dirty(), 1 << d);
            }
        }
    }

    private static void everyKeyThroughLimits(int least, int greatest) {
        for (int d = 0; d < 3; d++) {
            for (int node = 0; node < 8; node++) {
                for (int f = 0; f <= 48; f++) {
                    through(d, 1 + 4 * node + least, f);
                    through(d, 1 + 4 * node + greatest, f);
                }
            }
        }
    }

    /** Register 1 has key k of a node; key f goes from slot 3 of that node to register 5. */
    private static void through(int d, int k, int f) {
        int node = (k - 1) / 4;
        boolean weak = (k - 1) % 4 >= 2;
        int want = weak && f != 0 ? 4 * ((f - 1) / 4) + 4 : f;
        CapStore x = new CapStore();
        x.place(node, 3, f);
        x.place(d, 1, k);
        x.place(d, 5, 48);
        String call = "fetch(" + d + ", 1, 3, 5) of " + f + " through " + k;
        Due.is(call, x.fetch(d, 1, 3, 5), 0);
        Due.is("register 5 after " + call, x.key(d, 5), want);
        Due.is("slot 3 after " + call, x.key(node, 3), f);
        Due.is("register 1 after " + call, x.key(d, 1), k);
    }

    /** It comes out empty through keys of all limits, and is stored to the register like any other. */
    private static void theEmptyKey() {
        for (int k = 29; k <= 32; k++) {
            CapStore x = new CapStore();
            x.place(2, 0, k);
            x.place(2, 6, 48);
            x.checkpoint();
            Due.is("fetch(2, 0, 7, 6) of 0 through " + k, x.fetch(2, 0, 7, 6), 0);
            Due.is("key(2, 6)", x.key(2, 6), 0);
            Due.is("dirty()", x.dirty(), 4);
            x.checkpoint();
            Due.is("fetch(2, 0, 7, 6) of 0 into an empty register", x.fetch(2, 0, 7, 6), 0);
            Due.is("dirty()", x.dirty(), 4);
        }
    }

    private static void intoTheRegisterOfTheKey() {
        CapStore x = new CapStore();
        x.place(4, 7, 42);
        x.place(2, 0, 17);
        Due.is("fetch(2, 0, 7, 0)", x.fetch(2, 0, 7, 0), 0);
        Due.is("key(2, 0)", x.key(2, 0), 42);
        Due.is("fetch(2, 0, 7, 0) through the key of a page", x.fetch(2, 0, 7, 0), -3);
    }

    /** A weak key of the domain's own node diminishes what lies in its registers, at last itself. */
    private static void intoTheSlotThatIsFetched() {
        CapStore x = new CapStore();
        x.place(1, 0, 7);
        x.place(1, 6, 33);
        Due.is("fetch(1, 0, 6, 6)", x.fetch(1, 0, 6, 6), 0);
        Due.is("key(1, 6)", x.key(1, 6), 36);
        Due.is("fetch(1, 0, 0, 0)", x.fetch(1, 0, 0, 0), 0);
        Due.is("key(1, 0)", x.key(1, 0), 8);
    }

    private static void wrongKeys() {
        for (int k = 0; k <= 48; k++) {
            boolean node = k >= 1 && k <= 32;
            if (!node) {
                Refused.throughKey("fetch", k, -3);
            }
        }
    }
}
