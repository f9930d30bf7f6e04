/** Promise 4: store. */
public final class Promise04Test {
    private static final String PROMISE = "promise 4";

    private Promise04Test() {
    }

    public static void main(String[] args) {
        Due.test(PROMISE, "slot b (0 .. 7) of that node becomes the key in register c (0 .. 7)", Promise04Test::everyRegisterAndSlot);
        Due.test(PROMISE, "Domain d (0 .. 2) stores", () -> Refused.notNamed("store", 0));
        Due.test(PROMISE, "its register a (0 .. 7) has the key of a node, which writes", () -> Refused.notNamed("store", 1));
        Due.test(PROMISE, "slot b (0 .. 7) of that node", () -> Refused.notNamed("store", 2));
        Due.test(PROMISE, "the key in register c (0 .. 7)", () -> Refused.notNamed("store", 3));
        Due.test(PROMISE, "has the key of a node, which writes", Promise04Test::everyKeyInEveryNode);
        Due.test(PROMISE, "slot b (0 .. 7) of that node becomes the key", Promise04Test::theEmptyKey);
        Due.test(PROMISE, "slot b (0 .. 7) of that node becomes the key", Promise04Test::intoTheRegisterOfTheKey);
        Due.test(PROMISE, "the key in register c (0 .. 7)", Promise04Test::theKeyThroughItself);
        Due.test(PROMISE, "0, or -1, -2, -3, -4", Promise04Test::wrongKeys);
        Due.test(PROMISE, "0, or -1, -2, -3, -4", () -> Refused.whenDown("store"));
        Due.end();
    }

    /** Register c goes to slot b of node 7, whose other slots keep 48; the registers stay as they are. */
    private static void everyRegisterAndSlot() {
        for (int d = 0; d < 3; d++) {
            for (int i = 0; i < 512; i++) {
                int a = i / 64;
                int b = i / 8 % 8;
                int c = i % 8;
                CapStore x = new CapStore();
                for (int r = 0; r < 8; r++) {
                    x.place(d, r, r == a ? 29 : 33 + r);
                    x.place(7, r, 48);
                }
                x.checkpoint();
                String call = "store(" + d + ", " + a + ", " + b + ", " + c + ")";
                Due.is(call, x.store(d, a, b, c), 0);
                for (int r = 0; r < 8; r++) {
                    Due.is("key(7, " + r + ") after " + call, x.key(7, r), r != b ? 48 : c == a ? 29 : 33 + c);
                    Due.is("register " + r + " after " + call, x.key(d, r), r == a ? 29 : 33 + r);
                }
                Due.is("dirty() after " + call, x.dirty(), 1 << 7);
            }
        }
    }

    /** No key is diminished on its way in. */
    private static void everyKeyInEveryNode() {
        for (int node = 0; node < 8; node++) {
            for (int f = 0; f <= 48; f++) {
                CapStore x = new CapStore();
                x.place(1, 0, 1 + 4 * node);
                x.place(1, 7, f);
                x.place(node, 5, 1);
                x.checkpoint();
                Due.is("store(1, 0, 5, 7) of " + f + " in node " + node, x.store(1, 0, 5, 7), 0);
                Due.is("key(" + node + ", 5)", x.key(node, 5), f);
                Due.is("dirty()", x.dirty(), 1 << node);
            }
        }
    }

    private static void theEmptyKey() {
        CapStore x = new CapStore();
        x.place(2, 0, 13);
        x.place(3, 7, 48);
        x.checkpoint();
        Due.is("store(2, 0, 7, 1) of 0", x.store(2, 0, 7, 1), 0);
        Due.is("key(3, 7)", x.key(3, 7), 0);
        Due.is("dirty()", x.dirty(), 8);
        x.checkpoint();
        Due.is("store(2, 0, 7, 1) of 0 into an empty slot", x.store(2, 0, 7, 1), 0);
        Due.is("dirty() after a store that changed nothing", x.dirty(), 8);
    }

    private static void intoTheRegisterOfTheKey() {
        CapStore x = new CapStore();
        x.place(2, 3, 9);
        x.place(2, 4, 20);
        Due.is("store(2, 3, 3, 4)", x.store(2, 3, 3, 4), 0);
        Due.is("key(2, 3)", x.key(2, 3), 20);
        Due.is("store(2, 3, 3, 4) through a key with limits 3", x.store(2, 3, 3, 4), -4);
    }

    private static void theKeyThroughItself() {
        CapStore x = new CapStore();
        x.place(0, 2, 21);
        Due.is("store(0, 2, 0, 2)", x.store(0, 2, 0, 2), 0);
        Due.is("key(5, 0)", x.key(5, 0), 21);
    }

    private static void wrongKeys() {
        for (int k = 0; k <= 48; k++) {
            boolean node = k >= 1 && k <= 32;
            boolean writes = node && k % 4 == 1;
            if (!writes) {
                Refused.throughKey("store", k, node ? -4 : -3);
            }
        }
    }
}
