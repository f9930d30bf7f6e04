/** Promises 7 and 8: calls on the registers alone. */
public final class RegisterCallsTest {
    /** LIMITS[own][added]. */
    private static final int[][] LIMITS = {{0, 1, 2, 3}, {1, 1, 3, 3}, {2, 3, 2, 3}, {3, 3, 3, 3}};

    private RegisterCallsTest() {
    }

    public static void main(String[] args) {
        restrictEveryKey();
        restrictTheEmptyKey();
        restrictInPlace();
        restrictMakesOnlyTheDomainDirty();
        clearEveryRegister();
        Due.end();
    }

    private static void restrictEveryKey() {
        for (int o = 0; o < 12; o++) {
            for (int own = 0; own < 4; own++) {
                for (int added = 0; added < 4; added++) {
                    int d = o % 3;
                    int k = 1 + 4 * o + own;
                    CapStore x = new CapStore();
                    x.place(d, 0, k);
                    Due.is("restrict(" + d + ", 0, " + added + ", 7) of " + k, x.restrict(d, 0, added, 7), 0);
                    Due.is("key(" + d + ", 7)", x.key(d, 7), 1 + 4 * o + LIMITS[own][added]);
                    Due.is("key(" + d + ", 0)", x.key(d, 0), k);
                }
            }
        }
    }

    private static void restrictTheEmptyKey() {
        for (int l = 0; l < 4; l++) {
            CapStore x = new CapStore();
            x.place(1, 3, 48);
            Due.is("restrict(1, 2, " + l + ", 3) of 0", x.restrict(1, 2, l, 3), 0);
            Due.is("key(1, 3)", x.key(1, 3), 0);
        }
    }

    private static void restrictInPlace() {
        CapStore x = new CapStore();
        x.place(0, 5, 1);
        Due.is("restrict(0, 5, 1, 5)", x.restrict(0, 5, 1, 5), 0);
        Due.is("restrict(0, 5, 2, 5)", x.restrict(0, 5, 2, 5), 0);
        Due.is("key(0, 5)", x.key(0, 5), 4);
    }

    private static void restrictMakesOnlyTheDomainDirty() {
        for (int d = 0; d < 3; d++) {
            CapStore x = new CapStore();
            x.restrict(d, 0, 0, 0);
            Due.is("dirty() after restrict(" + d + ", 0, 0, 0)", x.dirty(), 1 << d);
        }
    }

    private static void clearEveryRegister() {
        for (int d = 0; d < 3; d++) {
            for (int a = 0; a < 8; a++) {
                CapStore x = new CapStore();
                for (int s = 0; s < 8; s++) {
                    x.place(d, s, 48);
                }
                x.checkpoint();
                Due.is("clear(" + d + ", " + a + ")", x.clear(d, a), 0);
                Due.is("dirty()", x.dirty(), 1 << d);
                for (int s = 0; s < 8; s++) {
                    Due.is("key(" + d + ", " + s + ")", x.key(d, s), s == a ? 0 : 48);
                }
                x.checkpoint();
                x.clear(d, a);
                Due.is("dirty() after clear of an empty register", x.dirty(), 1 << d);
            }
        }
    }
}
