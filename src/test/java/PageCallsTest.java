/** Promises 5, 6 and 15: calls on the words of pages. */
public final class PageCallsTest {
    private static final long WRONG_KIND = 4294967293L;
    private static final int[] WORDS = {
        0, 1, -1, -2, -3, -4, 77, Integer.MAX_VALUE, Integer.MAX_VALUE - 1, Integer.MIN_VALUE, Integer.MIN_VALUE + 1};

    private PageCallsTest() {
    }

    public static void main(String[] args) {
        everyWordOfEveryPage();
        everyInt();
        throughEveryKey();
        writeMakesOnlyThePageDirty();
        readMakesNothingDirty();
        Due.end();
    }

    private static void everyWordOfEveryPage() {
        CapStore x = new CapStore();
        for (int i = 0; i < 32; i++) {
            x.place(1, i / 8, 33 + 4 * (i / 8));
            Due.is("write of word " + i, x.write(1, i / 8, i % 8, 1000 + i), 0);
        }
        for (int i = 0; i < 32; i++) {
            Due.is("read of word " + i, x.read(1, i / 8, i % 8), 1000 + i);
            Due.is("word(" + (8 + i / 8) + ", " + i % 8 + ")", x.word(8 + i / 8, i % 8), 1000 + i);
        }
    }

    private static void everyInt() {
        CapStore x = new CapStore();
        x.place(0, 0, 45);
        for (int v : WORDS) {
            Due.is("write(0, 0, 7, " + v + ")", x.write(0, 0, 7, v), 0);
            Due.is("read(0, 0, 7)", x.read(0, 0, 7), v);
            Due.is("word(11, 7)", x.word(11, 7), v);
        }
        x.checkpoint();
        Due.is("disk(11, 7)", x.disk(11, 7), WORDS[WORDS.length - 1]);
    }

    private static void throughEveryKey() {
        for (int d = 0; d < 3; d++) {
            for (int k = 0; k <= 48; k++) {
                oneKey(d, k);
            }
        }
    }

    private static void oneKey(int d, int k) {
        boolean page = k >= 33;
        int p = page ? (k - 1) / 4 : 8;
        CapStore x = new CapStore();
        x.place(d, 0, 1 + 4 * p);
        x.write(d, 0, 2, 55);
        x.place(d, 6, k);
        boolean writes = page && (k - 1) % 4 == 0;
        String call = "write(" + d + ", 6, 2, 66) through " + k;
        Due.is("read(" + d + ", 6, 2) through " + k, x.read(d, 6, 2), page ? 55 : WRONG_KIND);
        Due.is(call, x.write(d, 6, 2, 66), writes ? 0 : page ? -4 : -3);
        Due.is("word(" + p + ", 2) after " + call, x.word(p, 2), writes ? 66 : 55);
    }

    private static void writeMakesOnlyThePageDirty() {
        for (int p = 8; p < 12; p++) {
            CapStore x = new CapStore();
            x.place(2, 4, 1 + 4 * p);
            x.checkpoint();
            x.write(2, 4, 0, 0);
            Due.is("dirty() after a write of what was there in page " + p, x.dirty(), 1 << p);
        }
    }

    private static void readMakesNothingDirty() {
        CapStore x = new CapStore();
        x.place(2, 4, 36);
        x.checkpoint();
        x.read(2, 4, 0);
        x.word(8, 0);
        x.key(2, 4);
        Due.is("dirty() after read, word and key", x.dirty(), 0);
    }
}
