/**
 * A store with a whole checkpoint of old contents, and new contents in a set of dirty objects: slot
 * or word i of object o is oldValue(o, i) or newValue(o, i). Making one takes 97 to 193 calls, so
 * that looking at all of the disk (200 calls) and of memory (96) still fits into 512.
 */
final class Scene {
    static final int ALL = 0b1111_1111_1111;
    static final int NODES = 0b0000_1111_1111;
    static final int PAGES = 0b1111_0000_0000;
    /** What the first checkpoint writes: twelve logs, twelve homes and the header twice. */
    static final int FIRST_WRITES = 26;
    static final long WORD_WHEN_DOWN = 4294967295L;

    private Scene() {
    }

    /** Every object alone, every object left out, and some more. */
    static int[] sets() {
        int[] more = {ALL, NODES, PAGES, 1 | 1 << 11, 1 << 7 | 1 << 8, 0b0101_0101_0101, 0b1010_1010_1010, 0b0000_0000_0111};
        int[] sets = new int[24 + more.length];
        for (int o = 0; o < 12; o++) {
            sets[o] = 1 << o;
            sets[12 + o] = ALL & ~(1 << o);
        }
        System.arraycopy(more, 0, sets, 24, more.length);
        return sets;
    }

    /** Registers 0 .. 3 of domain 0 hold the keys of the pages, through which the words are written. */
    static int oldValue(int o, int i) {
        if (o == 0 && i < 4) {
            return 33 + 4 * i;
        }
        return o < 8 ? 1 + (8 * o + i) % 48 : -1 - 8 * (o - 8) - i;
    }

    /** Among the words are the least and the greatest int. */
    static int newValue(int o, int i) {
        if (o < 8) {
            return (8 * o + i + 20) % 49;
        }
        int near = 8 * (o - 8) + i / 2;
        return i % 2 == 0 ? Integer.MIN_VALUE + near : Integer.MAX_VALUE - near;
    }

    static boolean has(int set, int o) {
        return (set & 1 << o) != 0;
    }

    static CapStore withDirty(int set) {
        CapStore x = new CapStore();
        for (int o = 0; o < 12; o++) {
            fill(x, o, false);
        }
        Due.is("the first checkpoint()", x.checkpoint(), FIRST_WRITES);
        // pages come first, while the registers still hold their keys
        for (int o = 11; o >= 0; o--) {
            if (has(set, o)) {
                fill(x, o, true);
            }
        }
        return x;
    }

    private static void fill(CapStore x, int o, boolean isNew) {
        for (int i = 0; i < 8; i++) {
            int value = isNew ? newValue(o, i) : oldValue(o, i);
            Due.is("filling object " + o, o < 8 ? x.place(o, i, value) : x.write(0, o - 8, i, value), 0);
        }
    }

    /** All homes, logs and the header; the objects in the sets have their new contents there. */
    static void disk(String when, CapStore x, int newHomes, int newLogs, int header) {
        for (int i = 0; i < 8; i++) {
            for (int o = 0; o < 12; o++) {
                Due.is("disk(" + o + ", " + i + ")" + when, x.disk(o, i), has(newHomes, o) ? newValue(o, i) : oldValue(o, i));
                Due.is("disk(" + (12 + o) + ", " + i + ")" + when, x.disk(12 + o, i), has(newLogs, o) ? newValue(o, i) : oldValue(o, i));
            }
            Due.is("disk(24, " + i + ")" + when, x.disk(24, i), i == 0 ? header : 0);
        }
    }

    static void memory(String when, CapStore x, int newObjects) {
        for (int o = 0; o < 12; o++) {
            for (int i = 0; i < 8; i++) {
                long want = has(newObjects, o) ? newValue(o, i) : oldValue(o, i);
                Due.is("slot or word " + i + " of object " + o + when, o < 8 ? x.key(o, i) : x.word(o, i), want);
            }
        }
    }

    static void noMemory(String when, CapStore x) {
        for (int i = 0; i < 8; i++) {
            for (int o = 0; o < 12; o++) {
                Due.is("slot or word " + i + " of object " + o + when, o < 8 ? x.key(o, i) : x.word(o, i), o < 8 ? -1 : WORD_WHEN_DOWN);
            }
        }
    }

    static void counts(String when, CapStore x, boolean up, int dirty, int writes, int commits) {
        Due.is("isUp()" + when, x.isUp(), up);
        Due.is("dirty()" + when, x.dirty(), dirty);
        Due.is("writes()" + when, x.writes(), writes);
        Due.is("commits()" + when, x.commits(), commits);
    }

    /** The least objects of a set, as many as there is power for. */
    static int least(int set, int count) {
        int least = 0;
        for (int o = 0; o < 12 && Integer.bitCount(least) < count; o++) {
            least |= set & 1 << o;
        }
        return least;
    }

    /** Blocks that can be written until the machine is DOWN, by checkpoints of one object, or -1 if 68 did not end it. */
    static int blocksUntilDown(CapStore x) {
        int before = x.writes();
        for (int i = 0; i < 17; i++) {
            x.place(0, 0, 0);
            x.checkpoint();
        }
        return x.isUp() ? -1 : x.writes() - before;
    }
}
