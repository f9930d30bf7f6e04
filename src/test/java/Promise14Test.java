/** Promise 14: key. */
public final class Promise14Test {
    private static final String PROMISE = "promise 14";

    private Promise14Test() {
    }

    public static void main(String[] args) {
        Due.test(PROMISE, "The key in slot s of node n", Promise14Test::everySlot);
        Due.test(PROMISE, "-1 if DOWN", () -> Refused.whenDown("key"));
        Due.test(PROMISE, "-1 if DOWN", Promise14Test::downBeforeWrongNumbers);
        Due.test(PROMISE, "-2 if there is no such slot", () -> Refused.notNamed("key", 0));
        Due.test(PROMISE, "-2 if there is no such slot", () -> Refused.notNamed("key", 1));
        Due.test(PROMISE, "-2 if there is no such slot", Promise14Test::pagesHaveNoSlots);
        Due.end();
    }

    private static void everySlot() {
        CapStore x = new CapStore();
        for (int i = 0; i < 64; i++) {
            x.place(i / 8, i % 8, (i + 40) % 49);
        }
        x.checkpoint();
        for (int i = 0; i < 64; i++) {
            Due.is("key(" + i / 8 + ", " + i % 8 + ")", x.key(i / 8, i % 8), (i + 40) % 49);
        }
        Due.is("dirty() after it", x.dirty(), 0);
    }

    private static void downBeforeWrongNumbers() {
        CapStore x = new CapStore();
        x.crash();
        for (int n : Numbers.outside(0, 7)) {
            Due.is("key(" + n + ", 0)", x.key(n, 0), -1);
            Due.is("key(0, " + n + ")", x.key(0, n), -1);
        }
    }

    private static void pagesHaveNoSlots() {
        CapStore x = new CapStore();
        for (int i = 0; i < 8; i++) {
            x.place(0, 0, 33);
            x.write(0, 0, i, 5);
            Due.is("key(8, " + i + ")", x.key(8, i), -2);
        }
    }
}
