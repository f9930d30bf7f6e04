/** The terms OBJECTS, DOMAINS and REGISTERS. */
public final class ObjectsTest {
    private static final String OBJECTS = "terms, OBJECTS (promises 2 to 7, 14, 15)";
    private static final String DOMAINS = "terms, DOMAINS and REGISTERS (promises 3 to 8)";

    private ObjectsTest() {
    }

    public static void main(String[] args) {
        Due.test(OBJECTS, "the NODES 0 .. 7 have 8 slots each", ObjectsTest::slots);
        Due.test(OBJECTS, "a slot holds a KEY", ObjectsTest::onlyKeys);
        Due.test(OBJECTS, "the PAGES 8 .. 11 have 8 words each, a word is any int", ObjectsTest::words);
        Due.test(OBJECTS, "Key 0 is the empty key", ObjectsTest::theEmptyKey);
        Due.test(OBJECTS, "The key of object o with LIMITS l (0 .. 3) is 1 + 4 * o + l; so keys are 0 .. 48", ObjectsTest::everyKeyReachesItsObject);
        Due.test(OBJECTS, "Limit 1 is read-only, 2 is weak", ObjectsTest::limits);
        Due.test(OBJECTS, "A key WRITES if its limits are 0", ObjectsTest::onlyLimits0Write);
        Due.test(DOMAINS, "A key DIMINISHED is the key of the same object with limits 3", ObjectsTest::diminished);
        Due.test(DOMAINS, "0 diminished is 0", ObjectsTest::emptyDiminished);
        Due.test(DOMAINS, "DOMAINS are 0, 1 and 2", ObjectsTest::noOtherDomains);
        Due.test(DOMAINS, "the REGISTERS of domain d are the slots of node d", ObjectsTest::registersAreSlots);
        Due.end();
    }

    private static void slots() {
        CapStore x = new CapStore();
        for (int n = -1; n <= 8; n++) {
            for (int s = -1; s <= 8; s++) {
                boolean named = n >= 0 && n <= 7 && s >= 0 && s <= 7;
                Due.is("place(" + n + ", " + s + ", 48)", x.place(n, s, 48), named ? 0 : -2);
                Due.is("key(" + n + ", " + s + ")", x.key(n, s), named ? 48 : -2);
            }
        }
    }

    /** No way into a slot brings anything but a key there. */
    private static void onlyKeys() {
        CapStore x = new CapStore();
        for (int k = -1; k <= 49; k++) {
            boolean key = k >= 0 && k <= 48;
            int before = x.key(2, 7);
            Due.is("place(2, 7, " + k + ")", x.place(2, 7, k), key ? 0 : -2);
            Due.is("key(2, 7)", x.key(2, 7), key ? k : before);
            Due.is("restrict(2, 7, 3, 6)", x.restrict(2, 7, 3, 6), 0);
            Due.is("key(2, 6)", x.key(2, 6), x.key(2, 7) == 0 ? 0 : 4 * ((x.key(2, 7) + 3) / 4));
        }
    }

    private static void words() {
        CapStore x = new CapStore();
        for (int p = 7; p <= 12; p++) {
            x.place(0, 0, p > 7 && p < 12 ? 1 + 4 * p : 0);
            for (int i = -1; i <= 8; i++) {
                boolean word = i >= 0 && i <= 7;
                boolean page = p >= 8 && p <= 11;
                int v = i % 2 == 0 ? Numbers.LEAST + i : Numbers.GREATEST - i;
                Due.is("write(0, 0, " + i + ", " + v + ") in page " + p, x.write(0, 0, i, v), !word ? -2 : page ? 0 : -3);
                Due.is("word(" + p + ", " + i + ")", x.word(p, i), word && page ? v : 4294967294L);
            }
        }
    }

    private static void theEmptyKey() {
        CapStore x = new CapStore();
        Due.is("fetch(0, 0, 0, 0) through 0", x.fetch(0, 0, 0, 0), -3);
        Due.is("store(0, 0, 0, 0) through 0", x.store(0, 0, 0, 0), -3);
        Due.is("read(0, 0, 0) through 0", x.read(0, 0, 0), 4294967293L);
        Due.is("write(0, 0, 0, 0) through 0", x.write(0, 0, 0, 0), -3);
        Due.is("dirty()", x.dirty(), 0);
    }

    /** Slot 7 of node o has key 1 + o, word 7 of page o is 100 + o. */
    private static void everyKeyReachesItsObject() {
        CapStore x = new CapStore();
        for (int o = 0; o < 12; o++) {
            x.place(2, 0, 1 + 4 * o);
            Due.is("filling object " + o, o < 8 ? x.place(o, 7, 40 + o) : x.write(2, 0, 7, 100 + o), 0);
        }
        for (int k = 1; k <= 48; k++) {
            int o = (k - 1) / 4;
            boolean weak = (k - 1) % 4 >= 2;
            x.place(2, 0, k);
            Due.is("fetch(2, 0, 7, 1) through " + k, x.fetch(2, 0, 7, 1), o < 8 ? 0 : -3);
            Due.is("read(2, 0, 7) through " + k, x.read(2, 0, 7), o < 8 ? 4294967293L : 100 + o);
            if (o < 8) {
                Due.is("key(2, 1)", x.key(2, 1), weak ? 4 * ((40 + o - 1) / 4) + 4 : 40 + o);
            }
        }
        Due.is("place(2, 0, 49)", x.place(2, 0, 49), -2);
    }

    /** Read-only alone neither writes nor diminishes; weak alone does not write and diminishes. */
    private static void limits() {
        CapStore x = new CapStore();
        x.place(7, 0, 33);
        int[] fetched = {33, 33, 36, 36};
        for (int l = 0; l < 4; l++) {
            x.place(0, 0, 29 + l);
            Due.is("fetch(0, 0, 0, 1) through limits " + l, x.fetch(0, 0, 0, 1), 0);
            Due.is("key(0, 1)", x.key(0, 1), fetched[l]);
            Due.is("store(0, 0, 7, 1) through limits " + l, x.store(0, 0, 7, 1), l == 0 ? 0 : -4);
        }
    }

    private static void onlyLimits0Write() {
        for (int k = 1; k <= 48; k++) {
            CapStore x = new CapStore();
            x.place(1, 0, k);
            int want = (k - 1) % 4 == 0 ? 0 : -4;
            if (k <= 32) {
                Due.is("store(1, 0, 3, 1) through " + k, x.store(1, 0, 3, 1), want);
            } else {
                Due.is("write(1, 0, 3, 1) through " + k, x.write(1, 0, 3, 1), want);
            }
        }
    }

    private static void diminished() {
        for (int k = 1; k <= 48; k++) {
            CapStore x = new CapStore();
            x.place(0, 0, 31);
            x.place(7, 0, k);
            Due.is("fetch(0, 0, 0, 1) of " + k, x.fetch(0, 0, 0, 1), 0);
            Due.is("key(0, 1)", x.key(0, 1), 1 + 4 * ((k - 1) / 4) + 3);
        }
    }

    private static void emptyDiminished() {
        for (int weak : new int[] {31, 32}) {
            CapStore x = new CapStore();
            x.place(0, 0, weak);
            x.place(0, 1, 48);
            Due.is("fetch(0, 0, 0, 1) of 0 through " + weak, x.fetch(0, 0, 0, 1), 0);
            Due.is("key(0, 1)", x.key(0, 1), 0);
        }
    }

    private static void noOtherDomains() {
        CapStore x = new CapStore();
        for (int n = 0; n < 8; n++) {
            x.place(n, 0, 29);
            x.place(n, 1, 45);
        }
        for (int d = -1; d <= 8; d++) {
            int want = d >= 0 && d <= 2 ? 0 : -2;
            Due.is("fetch(" + d + ", 0, 7, 2)", x.fetch(d, 0, 7, 2), want);
            Due.is("store(" + d + ", 0, 7, 2)", x.store(d, 0, 7, 2), want);
            Due.is("read(" + d + ", 1, 7)", x.read(d, 1, 7), want == 0 ? 0 : 4294967294L);
            Due.is("write(" + d + ", 1, 7, 0)", x.write(d, 1, 7, 0), want);
            Due.is("restrict(" + d + ", 0, 0, 2)", x.restrict(d, 0, 0, 2), want);
            Due.is("clear(" + d + ", 3)", x.clear(d, 3), want);
        }
    }

    /** What a store through a key of node d brings into a slot is what domain d has in that register, and the other way. */
    private static void registersAreSlots() {
        for (int d = 0; d < 3; d++) {
            int other = (d + 1) % 3;
            CapStore x = new CapStore();
            x.place(other, 0, 1 + 4 * d);
            x.place(other, 1, 45);
            Due.is("store(" + other + ", 0, 6, 1)", x.store(other, 0, 6, 1), 0);
            Due.is("write(" + d + ", 6, 2, 5)", x.write(d, 6, 2, 5), 0);
            Due.is("restrict(" + d + ", 6, 1, 7)", x.restrict(d, 6, 1, 7), 0);
            Due.is("fetch(" + other + ", 0, 7, 2)", x.fetch(other, 0, 7, 2), 0);
            Due.is("key(" + other + ", 2)", x.key(other, 2), 46);
            Due.is("key(" + d + ", 7)", x.key(d, 7), 46);
        }
    }
}
