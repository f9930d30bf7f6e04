/** Promise 1. */
public final class NewObjectTest {
    private NewObjectTest() {
    }

    public static void main(String[] args) {
        allIsZero();
        powerIsEndless();
        Due.end();
    }

    private static void allIsZero() {
        CapStore x = new CapStore();
        Due.is("isUp()", x.isUp(), true);
        Due.is("dirty()", x.dirty(), 0);
        Due.is("writes()", x.writes(), 0);
        Due.is("commits()", x.commits(), 0);
        for (int i = 0; i < 8; i++) {
            for (int o = 0; o < 12; o++) {
                Due.is("slot or word " + i + " of object " + o, o < 8 ? x.key(o, i) : x.word(o, i), 0);
            }
            for (int b = 0; b < 25; b++) {
                Due.is("disk(" + b + ", " + i + ")", x.disk(b, i), 0);
            }
        }
    }

    private static void powerIsEndless() {
        CapStore x = new CapStore();
        for (int i = 0; i < 100; i++) {
            x.place(0, 0, 0);
            Due.is("checkpoint " + i, x.checkpoint(), 4);
        }
        Due.is("isUp() after 400 blocks", x.isUp(), true);
    }
}
