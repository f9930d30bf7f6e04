/** Promise 7: restrict. */
public final class Promise07Test {
    private static final String PROMISE = "promise 7";
    /** UNION[own][added]. */
    private static final int[][] UNION = {{0, 1, 2, 3}, {1, 1, 3, 3}, {2, 3, 2, 3}, {3, 3, 3, 3}};

    private Promise07Test() {
    }

    public static void main(String[] args) {
        Due.test(PROMISE, "register c (0 .. 7) becomes the key in register a (0 .. 7) with the limits l (0 .. 3) added",
            Promise07Test::everyRegister);
        Due.test(PROMISE, "Domain d (0 .. 2)", () -> Refused.notNamed("restrict", 0));
        Due.test(PROMISE, "the key in register a (0 .. 7)", () -> Refused.notNamed("restrict", 1));
        Due.test(PROMISE, "with the limits l (0 .. 3)", () -> Refused.notNamed("restrict", 2));
        Due.test(PROMISE, "register c (0 .. 7)", () -> Refused.notNamed("restrict", 3));
        Due.test(PROMISE, "each limit that one of the two has", Promise07Test::everyKeyAndLimit);
        Due.test(PROMISE, "the empty key stays empty", Promise07Test::theEmptyKey);
        Due.test(PROMISE, "the empty key stays empty", Promise07Test::theEmptyKeyInEveryRegister);
        Due.test(PROMISE, "register c (0 .. 7) becomes the key in register a (0 .. 7)", Promise07Test::inPlace);
        Due.test(PROMISE, "0, or -1, -2", () -> Refused.whenDown("restrict"));
        Due.end();
    }

    private static void everyRegister() {
        for (int d = 0; d < 3; d++) {
            for (int i = 0; i < 64; i++) {
                int a = i / 8;
                int c = i % 8;
                CapStore x = new CapStore();
                for (int r = 0; r < 8; r++) {
                    x.place(d, r, r == a ? 33 : 5);
                }
                x.checkpoint();
                String call = "restrict(" + d + ", " + a + ", 2, " + c + ")";
                Due.is(call, x.restrict(d, a, 2, c), 0);
                for (int r = 0; r < 8; r++) {
                    Due.is("register " + r + " after " + call, x.key(d, r), r == c ? 35 : r == a ? 33 : 5);
                }
                Due.is("dirty() after " + call, x.dirty(), 1 << d);
            }
        }
    }

    private static void everyKeyAndLimit() {
        for (int i = 0; i < 192; i++) {
            int o = i / 16;
            int own = i / 4 % 4;
            int added = i % 4;
            int k = 1 + 4 * o + own;
            CapStore x = new CapStore();
            x.place(0, 0, k);
            Due.is("restrict(0, 0, " + added + ", 7) of " + k, x.restrict(0, 0, added, 7), 0);
            Due.is("key(0, 7)", x.key(0, 7), 1 + 4 * o + UNION[own][added]);
            Due.is("key(0, 0)", x.key(0, 0), k);
        }
    }

    /** Into a full register, and into an empty one, which is stored to all the same. */
    private static void theEmptyKey() {
        for (int l = 0; l < 4; l++) {
            CapStore x = new CapStore();
            x.place(1, 3, 48);
            x.checkpoint();
            Due.is("restrict(1, 2, " + l + ", 3) of 0", x.restrict(1, 2, l, 3), 0);
            Due.is("key(1, 3)", x.key(1, 3), 0);
            Due.is("dirty()", x.dirty(), 2);
            x.checkpoint();
            Due.is("restrict(1, 2, " + l + ", 2) of 0", x.restrict(1, 2, l, 2), 0);
            Due.is("key(1, 2)", x.key(1, 2), 0);
            Due.is("dirty()", x.dirty(), 2);
        }
    }

    /** Register c becomes empty too, and only it; the node was stored to, so it is dirty and goes to the disk. */
    private static void theEmptyKeyInEveryRegister() {
        for (int i = 0; i < 192; i++) {
            int d = i / 64;
            int a = i / 8 % 8;
            int c = i % 8;
            CapStore x = new CapStore();
            for (int r = 0; r < 8; r++) {
                x.place(d, r, r == a ? 0 : 40 + r);
            }
            x.checkpoint();
            String call = "restrict(" + d + ", " + a + ", 3, " + c + ") of 0";
            Due.is(call, x.restrict(d, a, 3, c), 0);
            Due.is("dirty() after " + call, x.dirty(), 1 << d);
            Due.is("checkpoint() after " + call, x.checkpoint(), 4);
            for (int r = 0; r < 8; r++) {
                int want = r == a || r == c ? 0 : 40 + r;
                Due.is("register " + r + " after " + call, x.key(d, r), want);
                Due.is("disk(" + d + ", " + r + ") after " + call, x.disk(d, r), want);
            }
        }
    }

    /** Limits are added, never taken away. */
    private static void inPlace() {
        CapStore x = new CapStore();
        x.place(2, 5, 45);
        int[] limits = {0, 1, 0, 2, 1, 0};
        int[] keys = {45, 46, 46, 48, 48, 48};
        for (int i = 0; i < limits.length; i++) {
            Due.is("restrict(2, 5, " + limits[i] + ", 5)", x.restrict(2, 5, limits[i], 5), 0);
            Due.is("key(2, 5)", x.key(2, 5), keys[i]);
        }
    }
}
