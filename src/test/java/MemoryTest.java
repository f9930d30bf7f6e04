/** The term MEMORY: which objects are dirty. */
public final class MemoryTest {
    private static final String TERM = "terms, MEMORY (promises 2 to 9, 12, 16)";

    private MemoryTest() {
    }

    public static void main(String[] args) {
        Due.test(TERM, "MEMORY holds all objects", MemoryTest::allObjects);
        Due.test(TERM, "one of its slots or words was stored to by a call that did what it says", MemoryTest::eachCall);
        Due.test(TERM, "also if that changed nothing", MemoryTest::changedNothing);
        Due.test(TERM, "by a call that did what it says", MemoryTest::refusedCalls);
        Due.test(TERM, "since memory was last the same as a whole checkpoint", MemoryTest::untilThen);
        Due.test(TERM, "at the beginning", () -> Due.is("dirty()", new CapStore().dirty(), 0));
        Due.test(TERM, "after a checkpoint that answered 0 or more", MemoryTest::afterACheckpoint);
        Due.test(TERM, "after a start that answered 0 or more", MemoryTest::afterAStart);
        Due.end();
    }

    /** 64 slots and 32 words at once, each with contents of its own. */
    private static void allObjects() {
        for (int set : Scene.sets()) {
            Scene.memory(" with new contents in set " + set, Scene.withDirty(set), set);
        }
    }

    /** Nothing in between takes an object out of the set, not even its old contents. */
    private static void untilThen() {
        CapStore x = clean();
        x.place(1, 4, 38);
        x.place(1, 4, 37);
        Due.is("dirty() with the old contents again", x.dirty(), 1 << 1);
        x.write(1, 4, 0, 9);
        x.power(0);
        x.read(1, 4, 0);
        x.start(-1);
        x.place(8, 0, 1);
        Due.is("dirty() after calls that store nothing", x.dirty(), 1 << 1 | 1 << 9);
        x.clear(1, 7);
        Due.is("dirty() after another store", x.dirty(), 1 << 1 | 1 << 9);
        x.power(6);
        Due.is("checkpoint()", x.checkpoint(), 6);
        Due.is("dirty() after it", x.dirty(), 0);
    }

    /** Domain 1 has the key of node 6 in register 0 and of page 9 in register 4. */
    private static CapStore clean() {
        CapStore x = new CapStore();
        x.place(1, 0, 25);
        x.place(1, 4, 37);
        x.place(6, 0, 48);
        x.checkpoint();
        return x;
    }

    private static void dirtyAfter(String name, int set, int... a) {
        CapStore x = clean();
        Call call = Call.named(name);
        Due.is(call.text(a), call.on(x, a), 0);
        Due.is("dirty() after " + call.text(a), x.dirty(), set);
    }

    private static void eachCall() {
        dirtyAfter("place", 1 << 5, 5, 0, 48);
        dirtyAfter("fetch", 1 << 1, 1, 0, 0, 7);
        dirtyAfter("store", 1 << 6, 1, 0, 7, 4);
        dirtyAfter("write", 1 << 9, 1, 4, 7, 1);
        dirtyAfter("restrict", 1 << 1, 1, 4, 3, 4);
        dirtyAfter("clear", 1 << 1, 1, 4);
        dirtyAfter("read", 0, 1, 4, 7);
        dirtyAfter("power", 0, 5);
        dirtyAfter("key", 0, 7, 7);
        dirtyAfter("word", 0, 11, 7);
        dirtyAfter("disk", 0, 24, 7);
    }

    private static void changedNothing() {
        dirtyAfter("place", 1 << 7, 7, 7, 0);
        dirtyAfter("place", 1 << 6, 6, 0, 48);
        dirtyAfter("fetch", 1 << 1, 1, 0, 7, 7);
        dirtyAfter("store", 1 << 6, 1, 0, 7, 7);
        dirtyAfter("write", 1 << 9, 1, 4, 7, 0);
        dirtyAfter("restrict", 1 << 1, 1, 4, 0, 4);
        dirtyAfter("restrict", 1 << 1, 1, 7, 3, 7);
        dirtyAfter("clear", 1 << 1, 1, 7);
    }

    private static void refusedCalls() {
        CapStore x = clean();
        Due.is("place(0, 0, 49)", x.place(0, 0, 49), -2);
        Due.is("fetch(1, 0, 8, 7)", x.fetch(1, 0, 8, 7), -2);
        Due.is("fetch(1, 4, 0, 7)", x.fetch(1, 4, 0, 7), -3);
        Due.is("store(1, 4, 0, 7)", x.store(1, 4, 0, 7), -3);
        Due.is("write(1, 0, 0, 7)", x.write(1, 0, 0, 7), -3);
        Due.is("restrict(1, 0, 4, 0)", x.restrict(1, 0, 4, 0), -2);
        Due.is("clear(3, 0)", x.clear(3, 0), -2);
        Due.is("dirty()", x.dirty(), 0);
        x.place(1, 0, 26);
        x.place(1, 4, 38);
        x.checkpoint();
        Due.is("store(1, 0, 0, 7)", x.store(1, 0, 0, 7), -4);
        Due.is("write(1, 4, 0, 7)", x.write(1, 4, 0, 7), -4);
        Due.is("dirty()", x.dirty(), 0);
    }

    /** Dirty again at once when it is stored to again. */
    private static void afterACheckpoint() {
        CapStore x = clean();
        Due.is("dirty() after a checkpoint", x.dirty(), 0);
        Due.is("checkpoint() of nothing", x.checkpoint(), 0);
        Due.is("dirty() after a checkpoint of nothing", x.dirty(), 0);
        x.place(1, 0, 25);
        Due.is("dirty() after a place", x.dirty(), 2);
        x.place(2, 0, 25);
        x.power(5);
        Due.is("checkpoint() with too little power", x.checkpoint(), -2);
        Due.is("dirty() after it", x.dirty(), -1);
    }

    private static void afterAStart() {
        CapStore x = clean();
        x.place(3, 0, 1);
        x.crash();
        Due.is("start(0)", x.start(0), 0);
        Due.is("dirty() after start(0)", x.dirty(), 0);
        x.place(3, 0, 1);
        x.power(2);
        Due.is("checkpoint()", x.checkpoint(), -2);
        Due.is("start(1)", x.start(1), -3);
        Due.is("dirty() after start(1)", x.dirty(), -1);
        Due.is("start(2)", x.start(2), 2);
        Due.is("dirty() after start(2)", x.dirty(), 0);
        x.place(3, 0, 1);
        Due.is("dirty() after a place", x.dirty(), 8);
    }
}
