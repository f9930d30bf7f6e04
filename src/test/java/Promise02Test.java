/** Promise 2: place. */
public final class Promise02Test {
    private static final String PROMISE = "promise 2";

    private Promise02Test() {
    }

    public static void main(String[] args) {
        Due.test(PROMISE, "slot s (0 .. 7) of node n (0 .. 7) becomes key k (0 .. 48)", Promise02Test::everySlotAndKey);
        Due.test(PROMISE, "slot s (0 .. 7) of node n (0 .. 7) becomes key k", Promise02Test::noOtherSlot);
        Due.test(PROMISE, "From outside", Promise02Test::throughNoKey);
        Due.test(PROMISE, "of node n (0 .. 7)", () -> Refused.notNamed("place", 0));
        Due.test(PROMISE, "of node n (0 .. 7)", Promise02Test::pagesAreNoNodes);
        Due.test(PROMISE, "slot s (0 .. 7)", () -> Refused.notNamed("place", 1));
        Due.test(PROMISE, "becomes key k (0 .. 48)", () -> Refused.notNamed("place", 2));
        Due.test(PROMISE, "0, or -1, -2", () -> Refused.whenDown("place"));
        Due.end();
    }

    private static void everySlotAndKey() {
        for (int n = 0; n < 8; n++) {
            for (int s = 0; s < 8; s++) {
                CapStore x = new CapStore();
                for (int k = 0; k <= 48; k++) {
                    Due.is("place(" + n + ", " + s + ", " + k + ")", x.place(n, s, k), 0);
                    Due.is("key(" + n + ", " + s + ")", x.key(n, s), k);
                    Due.is("dirty() after key " + k, x.dirty(), 1 << n);
                }
            }
        }
    }

    /** All slots are filled, then one becomes empty: all others and all words stay. */
    private static void noOtherSlot() {
        for (int changed = 0; changed < 64; changed++) {
            CapStore x = new CapStore();
            for (int i = 0; i < 64; i++) {
                x.place(i / 8, i % 8, 1 + i % 48);
            }
            x.place(changed / 8, changed % 8, 0);
            for (int i = 0; i < 64; i++) {
                Due.is("key(" + i / 8 + ", " + i % 8 + ")", x.key(i / 8, i % 8), i == changed ? 0 : 1 + i % 48);
            }
            for (int i = 0; i < 32; i++) {
                Due.is("word(" + (8 + i / 8) + ", " + i % 8 + ")", x.word(8 + i / 8, i % 8), 0);
            }
        }
    }

    /** What keys the domains have does not matter: none at all, or one that does not write. */
    private static void throughNoKey() {
        for (int n = 0; n < 8; n++) {
            CapStore x = new CapStore();
            Due.is("place(" + n + ", 7, 48) without keys", x.place(n, 7, 48), 0);
            Due.is("key(" + n + ", 7)", x.key(n, 7), 48);
            for (int d = 0; d < 3; d++) {
                x.place(d, 0, 1 + 4 * n + 3);
                x.place(d, 1, 45);
                Due.is("store(" + d + ", 0, 7, 1)", x.store(d, 0, 7, 1), -4);
            }
            Due.is("place(" + n + ", 7, 47) with read-only keys", x.place(n, 7, 47), 0);
            Due.is("key(" + n + ", 7)", x.key(n, 7), 47);
        }
    }

    private static void pagesAreNoNodes() {
        CapStore x = new CapStore();
        for (int p = 8; p < 12; p++) {
            Due.is("place(" + p + ", 0, 1)", x.place(p, 0, 1), -2);
            Due.is("word(" + p + ", 0)", x.word(p, 0), 0);
        }
        Due.is("dirty()", x.dirty(), 0);
    }
}
