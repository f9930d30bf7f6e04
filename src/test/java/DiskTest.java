/** The terms THE DISK and POWER. */
public final class DiskTest {
    private static final String DISK = "terms, THE DISK (promises 9, 12, 17)";
    private static final String POWER = "terms, POWER (promises 9, 10, 12, 18)";

    private DiskTest() {
    }

    public static void main(String[] args) {
        Due.test(DISK, "THE DISK has 25 BLOCKS of 8 words", DiskTest::blocksAndWords);
        Due.test(DISK, "block 24 is the HEADER", DiskTest::onlyTheHeader);
        Due.test(DISK, "block o (0 .. 11) is the HOME of object o, block 12 + o its LOG", DiskTest::homesAndLogs);
        Due.test(DISK, "The contents of an object are its 8 slots or words in their order", DiskTest::contents);
        Due.test(DISK, "Word 0 of the header is a set of objects (bit o for object o), its other words are always 0", DiskTest::header);
        Due.test(DISK, "The disk keeps what it holds, whatever happens", DiskTest::keeps);
        Due.test(POWER, "if POWER is 0, nothing is written, and the machine is DOWN at once", DiskTest::noPower);
        Due.test(POWER, "what was still to be done is not done", DiskTest::nothingMoreIsDone);
        Due.test(POWER, "Else all 8 words of the block are written, and POWER, if not endless, is one less", DiskTest::oneLess);
        Due.test(POWER, "POWER, if not endless, is one less", DiskTest::acrossCheckpoints);
        Due.test(POWER, "a number of blocks that can still be written, or endless", DiskTest::endless);
        Due.end();
    }

    /** Each of the 200 words is where it should be, and no number beside theirs finds one of them. */
    private static void blocksAndWords() {
        CapStore x = Scene.withDirty(Scene.NODES);
        x.power(9);
        x.checkpoint();
        Scene.disk("", x, 0, Scene.NODES, Scene.NODES);
        for (int i = -1; i <= 8; i++) {
            Due.is("disk(-1, " + i + ")", x.disk(-1, i), 0);
            Due.is("disk(25, " + i + ")", x.disk(25, i), 0);
        }
        for (int b = 0; b < 25; b++) {
            Due.is("disk(" + b + ", -1)", x.disk(b, -1), 0);
            Due.is("disk(" + b + ", 8)", x.disk(b, 8), 0);
        }
    }

    /** The block that makes the difference between a checkpoint that counts and one that does not is block 24 alone. */
    private static void onlyTheHeader() {
        for (int power = 3; power <= 4; power++) {
            CapStore x = Scene.withDirty(0b0000_1000_1001);
            x.power(power);
            x.checkpoint();
            Scene.disk(" with power " + power, x, 0, 0b0000_1000_1001, power == 4 ? 0b0000_1000_1001 : 0);
            Due.is("start(-1)", x.start(-1), power == 4 ? 4 : 0);
        }
    }

    private static void homesAndLogs() {
        for (int o = 0; o < 12; o++) {
            CapStore x = Scene.withDirty(1 << o);
            x.power(2);
            x.checkpoint();
            Scene.disk(" after the log of object " + o, x, 0, 1 << o, 1 << o);
            CapStore y = Scene.withDirty(1 << o);
            y.checkpoint();
            Scene.disk(" after the home of object " + o, y, 1 << o, 1 << o, 0);
        }
    }

    private static void contents() {
        CapStore x = new CapStore();
        x.place(0, 0, 41);
        for (int i = 0; i < 8; i++) {
            x.place(5, i, 10 + i);
            x.write(0, 0, i, -100 - i);
        }
        Due.is("checkpoint()", x.checkpoint(), 8);
        for (int i = 0; i < 8; i++) {
            Due.is("disk(5, " + i + ")", x.disk(5, i), 10 + i);
            Due.is("disk(17, " + i + ")", x.disk(17, i), 10 + i);
            Due.is("disk(10, " + i + ")", x.disk(10, i), -100 - i);
            Due.is("disk(22, " + i + ")", x.disk(22, i), -100 - i);
        }
    }

    /** Every object alone up to all 12, which are 4095. */
    private static void header() {
        for (int set : Scene.sets()) {
            CapStore x = Scene.withDirty(set);
            x.power(Integer.bitCount(set) + 1);
            x.checkpoint();
            isHeader(x, set);
            x.start(-1);
            isHeader(x, 0);
        }
    }

    private static void isHeader(CapStore x, int set) {
        for (int i = 0; i < 8; i++) {
            Due.is("disk(24, " + i + ") of set " + set, x.disk(24, i), i == 0 ? set : 0);
        }
    }

    /** Crashes, changes of memory and of power, starts and refused calls in between leave it as it is. */
    private static void keeps() {
        CapStore x = Scene.withDirty(Scene.PAGES);
        x.crash();
        x.crash();
        x.start(7);
        x.place(0, 0, 1);
        x.clear(1, 1);
        x.power(3);
        x.place(9, 0, 1);
        x.crash();
        x.checkpoint();
        x.start(64);
        x.start(0);
        Scene.disk("", x, 0, 0, 0);
        Scene.memory("", x, 0);
    }

    private static void noPower() {
        for (int set : Scene.sets()) {
            CapStore x = Scene.withDirty(set);
            x.power(0);
            Due.is("checkpoint() of set " + set, x.checkpoint(), -2);
            Scene.counts(" after it", x, false, -1, Scene.FIRST_WRITES, 1);
            Scene.disk(" after it", x, 0, 0, 0);
        }
    }

    /** Neither the rest of a checkpoint, nor the rest of a recovery and the memory that it would bring. */
    private static void nothingMoreIsDone() {
        CapStore x = Scene.withDirty(Scene.ALL);
        x.power(5);
        Due.is("checkpoint()", x.checkpoint(), -2);
        Scene.counts(" after the checkpoint", x, false, -1, Scene.FIRST_WRITES + 5, 1);
        Scene.disk(" after the checkpoint", x, 0, Scene.least(Scene.ALL, 5), 0);

        CapStore y = Scene.withDirty(Scene.ALL);
        y.power(13);
        y.checkpoint();
        Due.is("start(5)", y.start(5), -3);
        Scene.counts(" after the start", y, false, -1, Scene.FIRST_WRITES + 13 + 5, 2);
        Scene.disk(" after the start", y, Scene.least(Scene.ALL, 5), Scene.ALL, Scene.ALL);
        Scene.noMemory(" after the start", y);
    }

    private static void oneLess() {
        for (int power = 1; power <= 63; power++) {
            CapStore x = new CapStore();
            x.power(power);
            int left = power;
            for (int i = 0; left >= 4; i++) {
                x.place(7, 0, i);
                Due.is("checkpoint() with power " + left, x.checkpoint(), 4);
                left -= 4;
            }
            x.place(7, 0, 48);
            Due.is("checkpoint() with power " + left, x.checkpoint(), -2);
            Due.is("writes()", x.writes(), power);
            Due.is("disk(19, 0)", x.disk(19, 0), left >= 1 ? 48 : Math.max(0, power / 4 - 1));
            Due.is("disk(24, 0)", x.disk(24, 0), left >= 2 ? 1 << 7 : 0);
            Due.is("disk(7, 0)", x.disk(7, 0), left >= 3 ? 48 : Math.max(0, power / 4 - 1));
        }
    }

    /** What a recovery leaves of the power is what the next checkpoint has. */
    private static void acrossCheckpoints() {
        for (int left = 0; left <= 4; left++) {
            CapStore x = Scene.withDirty(Scene.ALL);
            x.power(13);
            x.checkpoint();
            Due.is("start(" + (13 + left) + ")", x.start(13 + left), 13);
            x.place(0, 0, 0);
            Due.is("checkpoint() with " + left + " left", x.checkpoint(), left == 4 ? 4 : -2);
            Due.is("writes()", x.writes(), Scene.FIRST_WRITES + 26 + left);
        }
    }

    private static void endless() {
        CapStore x = new CapStore();
        x.power(-1);
        for (int i = 0; i < 100; i++) {
            x.place(i % 8, i % 7, i % 49);
            Due.is("checkpoint() number " + i, x.checkpoint(), 4);
        }
        x.crash();
        Due.is("start(-1)", x.start(-1), 0);
        for (int i = 0; i < 100; i++) {
            x.place(i % 8, i % 7, i % 49);
            Due.is("checkpoint() number " + i, x.checkpoint(), 4);
        }
        Due.is("writes()", x.writes(), 800);
    }
}
