/** Promises 2, 3, 4 and 14: calls on the slots of nodes. */
public final class NodeCallsTest {
    private NodeCallsTest() {
    }

    public static void main(String[] args) {
        placeEveryKeyInEverySlot();
        placeOneSlotOnly();
        fetchThroughEveryKey();
        fetchIntoTheRegisterOfTheKey();
        fetchIntoTheSlotThatIsFetched();
        fetchMakesOnlyTheDomainDirty();
        storeThroughEveryKey();
        storeEveryKeyAsItIs();
        storeInTheRegisterOfTheKey();
        storeMakesOnlyTheNodeDirty();
        Due.end();
    }

    private static void placeEveryKeyInEverySlot() {
        for (int n = 0; n < 8; n++) {
            for (int s = 0; s < 8; s++) {
                CapStore x = new CapStore();
                for (int k = 0; k <= 48; k++) {
                    Due.is("place(" + n + ", " + s + ", " + k + ")", x.place(n, s, k), 0);
                    Due.is("key(" + n + ", " + s + ")", x.key(n, s), k);
                    Due.is("dirty() after key " + k, x.dirty(), 1 << n);
                }
            }
        }
    }

    private static void placeOneSlotOnly() {
        CapStore x = new CapStore();
        for (int i = 0; i < 64; i++) {
            x.place(i / 8, i % 8, (i + 1) % 49);
        }
        for (int i = 0; i < 64; i++) {
            Due.is("key in slot " + i % 8 + " of node " + i / 8, x.key(i / 8, i % 8), (i + 1) % 49);
        }
        Due.is("word(8, 0)", x.word(8, 0), 0);
    }

    private static boolean isNodeKey(int k) {
        return k >= 1 && k <= 32;
    }

    private static int objectOf(int k) {
        return (k - 1) / 4;
    }

    private static int limitsOf(int k) {
        return (k - 1) % 4;
    }

    /** Slot 3 of the node that key k is of holds f, register 1 holds k, f is fetched into register 5. */
    private static void fetchThroughEveryKey() {
        for (int d = 0; d < 3; d++) {
            for (int k = 0; k <= 48; k++) {
                for (int f = 0; f <= 48; f++) {
                    fetchOne(d, k, f);
                }
            }
        }
    }

    private static void fetchOne(int d, int k, int f) {
        CapStore x = new CapStore();
        x.place(isNodeKey(k) ? objectOf(k) : 7, 3, f);
        x.place(d, 1, k);
        x.place(d, 5, 48);
        String call = "fetch(" + d + ", 1, 3, 5) of " + f + " through " + k;
        if (!isNodeKey(k)) {
            Due.is(call, x.fetch(d, 1, 3, 5), -3);
            Due.is("register 5 after " + call, x.key(d, 5), 48);
            return;
        }
        boolean weak = limitsOf(k) == 2 || limitsOf(k) == 3;
        int want = weak && f != 0 ? 1 + 4 * objectOf(f) + 3 : f;
        Due.is(call, x.fetch(d, 1, 3, 5), 0);
        Due.is("register 5 after " + call, x.key(d, 5), want);
        Due.is("slot 3 after " + call, x.key(objectOf(k), 3), f);
        Due.is("register 1 after " + call, x.key(d, 1), k);
    }

    private static void fetchIntoTheRegisterOfTheKey() {
        CapStore x = new CapStore();
        x.place(4, 7, 42);
        x.place(2, 0, 17);
        Due.is("fetch(2, 0, 7, 0)", x.fetch(2, 0, 7, 0), 0);
        Due.is("key(2, 0)", x.key(2, 0), 42);
    }

    /** A weak key of the domain's own node diminishes what lies in its registers. */
    private static void fetchIntoTheSlotThatIsFetched() {
        CapStore x = new CapStore();
        x.place(1, 0, 7);
        x.place(1, 6, 33);
        Due.is("fetch(1, 0, 6, 6)", x.fetch(1, 0, 6, 6), 0);
        Due.is("key(1, 6)", x.key(1, 6), 36);
        Due.is("fetch(1, 0, 0, 0)", x.fetch(1, 0, 0, 0), 0);
        Due.is("key(1, 0)", x.key(1, 0), 8);
    }

    private static void fetchMakesOnlyTheDomainDirty() {
        for (int d = 0; d < 3; d++) {
            CapStore x = new CapStore();
            x.place(d, 0, 25);
            x.checkpoint();
            x.fetch(d, 0, 0, 7);
            Due.is("dirty() after fetch(" + d + ", 0, 0, 7)", x.dirty(), 1 << d);
        }
    }

    private static void storeThroughEveryKey() {
        for (int d = 0; d < 3; d++) {
            for (int k = 0; k <= 48; k++) {
                CapStore x = new CapStore();
                x.place(d, 1, k);
                x.place(d, 2, 46);
                int want = !isNodeKey(k) ? -3 : limitsOf(k) != 0 ? -4 : 0;
                String call = "store(" + d + ", 1, 6, 2) through " + k;
                Due.is(call, x.store(d, 1, 6, 2), want);
                for (int n = 0; n < 8; n++) {
                    boolean stored = want == 0 && n == objectOf(k);
                    Due.is("slot 6 of node " + n + " after " + call, x.key(n, 6), stored ? 46 : 0);
                }
                Due.is("register 2 after " + call, x.key(d, 2), 46);
            }
        }
    }

    private static void storeEveryKeyAsItIs() {
        for (int f = 0; f <= 48; f++) {
            CapStore x = new CapStore();
            x.place(0, 0, 29);
            x.place(0, 7, f);
            x.place(7, 0, 1);
            Due.is("store(0, 0, 0, 7) of " + f, x.store(0, 0, 0, 7), 0);
            Due.is("key(7, 0)", x.key(7, 0), f);
        }
    }

    private static void storeInTheRegisterOfTheKey() {
        CapStore x = new CapStore();
        x.place(2, 3, 9);
        x.place(2, 4, 20);
        Due.is("store(2, 3, 3, 4)", x.store(2, 3, 3, 4), 0);
        Due.is("key(2, 3)", x.key(2, 3), 20);
    }

    private static void storeMakesOnlyTheNodeDirty() {
        for (int n = 0; n < 8; n++) {
            CapStore x = new CapStore();
            x.place(1, 0, 1 + 4 * n);
            x.checkpoint();
            x.store(1, 0, 5, 5);
            Due.is("dirty() after a store of what was there in node " + n, x.dirty(), 1 << n);
        }
    }
}
