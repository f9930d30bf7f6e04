/** Promise 16: dirty. */
public final class Promise16Test {
    private static final String PROMISE = "promise 16";

    private Promise16Test() {
    }

    public static void main(String[] args) {
        Due.test(PROMISE, "The set of dirty objects", Promise16Test::none);
        Due.test(PROMISE, "The set of dirty objects", Promise16Test::eachAlone);
        Due.test(PROMISE, "The set of dirty objects", Promise16Test::oneByOneToAll);
        Due.test(PROMISE, "-1 if DOWN", () -> Refused.whenDown("dirty"));
        Due.end();
    }

    private static void none() {
        CapStore x = new CapStore();
        Due.is("dirty() at the beginning", x.dirty(), 0);
        x.place(7, 7, 1);
        x.checkpoint();
        Due.is("dirty() after a checkpoint", x.dirty(), 0);
        x.place(7, 7, 2);
        x.crash();
        x.start(0);
        Due.is("dirty() after a start", x.dirty(), 0);
    }

    private static void eachAlone() {
        for (int o = 0; o < 12; o++) {
            CapStore x = Scene.withDirty(1 << o);
            Due.is("dirty() with object " + o, x.dirty(), 1 << o);
        }
    }

    /** All 12 together are 4095. */
    private static void oneByOneToAll() {
        CapStore x = Scene.withDirty(0);
        int set = 0;
        for (int o = 11; o >= 0; o--) {
            Due.is("making object " + o + " dirty", o < 8 ? x.place(o, 0, 7) : x.write(0, o - 8, 0, 7), 0);
            set |= 1 << o;
            Due.is("dirty()", x.dirty(), set);
        }
        Due.is("dirty() of all objects", x.dirty(), 4095);
    }
}
