/** Promise 17: disk. */
public final class Promise17Test {
    private static final String PROMISE = "promise 17";

    private Promise17Test() {
    }

    public static void main(String[] args) {
        Due.test(PROMISE, "Word i of block b of the disk", Promise17Test::wholeDisk);
        Due.test(PROMISE, "Word i of block b of the disk", Promise17Test::everyKindOfWord);
        Due.test(PROMISE, "also if DOWN", Promise17Test::whenDown);
        Due.test(PROMISE, "0 if b is not 0 .. 24", Promise17Test::otherBlocks);
        Due.test(PROMISE, "0 if b is not 0 .. 24 or i not 0 .. 7", Promise17Test::otherWords);
        Due.test(PROMISE, "0 if b is not 0 .. 24 or i not 0 .. 7", Promise17Test::otherNumbersChangeNothing);
        Due.end();
    }

    private static void wholeDisk() {
        CapStore x = Scene.withDirty(Scene.ALL);
        Scene.disk(" before a checkpoint", x, 0, 0, 0);
        CapStore y = Scene.withDirty(Scene.ALL);
        y.checkpoint();
        Scene.disk(" after a checkpoint", y, Scene.ALL, Scene.ALL, 0);
    }

    private static void everyKindOfWord() {
        CapStore x = new CapStore();
        x.place(0, 0, 33);
        for (int v : Numbers.WORDS) {
            x.write(0, 0, 7, v);
            x.checkpoint();
            Due.is("disk(8, 7) of " + v, x.disk(8, 7), v);
            Due.is("disk(20, 7) of " + v, x.disk(20, 7), v);
        }
    }

    /** DOWN with all homes and logs filled and all objects in the header's set. */
    private static CapStore full() {
        CapStore x = Scene.withDirty(Scene.ALL);
        x.power(13);
        x.checkpoint();
        return x;
    }

    private static void whenDown() {
        CapStore x = full();
        Due.is("isUp()", x.isUp(), false);
        Scene.disk(" when DOWN", x, 0, Scene.ALL, Scene.ALL);
    }

    private static void otherBlocks() {
        for (int b : Numbers.outside(0, 24)) {
            CapStore x = full();
            for (int i = 0; i < 8; i++) {
                Due.is("disk(" + b + ", " + i + ") when DOWN", x.disk(b, i), 0);
            }
            x.start(-1);
            for (int i = 0; i < 8; i++) {
                Due.is("disk(" + b + ", " + i + ")", x.disk(b, i), 0);
            }
        }
    }

    private static void otherWords() {
        for (int i : Numbers.outside(0, 7)) {
            CapStore x = full();
            for (int b = 0; b < 25; b++) {
                Due.is("disk(" + b + ", " + i + ") when DOWN", x.disk(b, i), 0);
            }
            x.start(-1);
            for (int b = 0; b < 25; b++) {
                Due.is("disk(" + b + ", " + i + ")", x.disk(b, i), 0);
            }
        }
    }

    private static void otherNumbersChangeNothing() {
        Call disk = Call.named("disk");
        for (int b : Numbers.outside(0, 24)) {
            Refused.unchanged(disk, Refused::up, new int[] {b, 0}, 0);
            Refused.unchanged(disk, Refused::owing, new int[] {b, 7}, 0);
        }
        for (int i : Numbers.outside(0, 7)) {
            Refused.unchanged(disk, Refused::up, new int[] {9, i}, 0);
            Refused.unchanged(disk, Refused::owing, new int[] {24, i}, 0);
        }
    }
}
