/**
 * A store with a whole checkpoint of old values and new values in a set of dirty objects: the one
 * slot or word at index 7 of object o is oldValue(o) or newValue(o).
 */
final class Scene {
    static final int[] SETS = {1, 1 << 7, 1 << 8, 1 << 11, 1 << 11 | 1, 0b0101_1010_0110, 0b1111_0000_0000, 0b1111_1111_1111};
    /** What the first checkpoint writes: twelve logs, twelve homes and the header twice. */
    static final int FIRST_WRITES = 26;

    private Scene() {
    }

    static int oldValue(int o) {
        return 1 + o;
    }

    static int newValue(int o) {
        return 21 + o;
    }

    static boolean has(int set, int o) {
        return (set & 1 << o) != 0;
    }

    /** Registers 0 .. 3 of domain 0 reach the pages; they are not the slots that change. */
    static CapStore withDirty(int set) {
        CapStore x = new CapStore();
        for (int p = 8; p < 12; p++) {
            x.place(0, p - 8, 1 + 4 * p);
        }
        for (int o = 0; o < 12; o++) {
            set(x, o, oldValue(o));
        }
        Due.is("the first checkpoint", x.checkpoint(), FIRST_WRITES);
        for (int o = 0; o < 12; o++) {
            if (has(set, o)) {
                set(x, o, newValue(o));
            }
        }
        Due.is("dirty()", x.dirty(), set);
        return x;
    }

    private static void set(CapStore x, int o, int value) {
        long answer = o < 8 ? x.place(o, 7, value) : x.write(0, o - 8, 7, value);
        Due.is("setting object " + o, answer, 0);
    }

    /** Checks the word at index 7 of one block for each object; those in the set are the new ones. */
    static void blocks(String when, CapStore x, int first, int set) {
        for (int o = 0; o < 12; o++) {
            Due.is("disk(" + (first + o) + ", 7) " + when, x.disk(first + o, 7), has(set, o) ? newValue(o) : oldValue(o));
        }
    }

    static void memory(String when, CapStore x, int set) {
        for (int o = 0; o < 12; o++) {
            long got = o < 8 ? x.key(o, 7) : x.word(o, 7);
            Due.is("object " + o + " " + when, got, has(set, o) ? newValue(o) : oldValue(o));
        }
        for (int p = 8; p < 12; p++) {
            Due.is("key(0, " + (p - 8) + ") " + when, x.key(0, p - 8), 1 + 4 * p);
        }
    }

    static void header(String when, CapStore x, int set) {
        for (int i = 0; i < 8; i++) {
            Due.is("disk(24, " + i + ") " + when, x.disk(24, i), i == 0 ? set : 0);
        }
    }

    /** The least objects of a set, as many as there is power for. */
    static int least(int set, int count) {
        int least = 0;
        for (int o = 0; o < 12 && Integer.bitCount(least) < count; o++) {
            least |= set & 1 << o;
        }
        return least;
    }
}
