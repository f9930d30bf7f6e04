/** Promise 11: crash. */
public final class Promise11Test {
    private static final String PROMISE = "promise 11";

    private Promise11Test() {
    }

    public static void main(String[] args) {
        Due.test(PROMISE, "The machine is DOWN", Promise11Test::isDown);
        Due.test(PROMISE, "memory is lost", Promise11Test::memoryIsLost);
        Due.test(PROMISE, "memory is lost", Promise11Test::aNewObjectHasNothingToLose);
        Due.test(PROMISE, "false if it was DOWN before", Promise11Test::whenDown);
        Due.test(PROMISE, "false if it was DOWN before", Promise11Test::againAndAgain);
        Due.end();
    }

    private static void isDown() {
        CapStore x = Scene.withDirty(Scene.ALL);
        Due.is("crash()", x.crash(), true);
        Scene.counts("", x, false, -1, Scene.FIRST_WRITES, 1);
        Scene.noMemory("", x);
        Scene.disk("", x, 0, 0, 0);
    }

    private static void memoryIsLost() {
        for (int set : Scene.sets()) {
            CapStore x = Scene.withDirty(set);
            Due.is("crash() with set " + set, x.crash(), true);
            Due.is("start(-1)", x.start(-1), 0);
            Scene.counts(" after it", x, true, 0, Scene.FIRST_WRITES, 1);
            Scene.memory(" after it", x, 0);
        }
    }

    private static void aNewObjectHasNothingToLose() {
        CapStore x = new CapStore();
        Due.is("crash()", x.crash(), true);
        Due.is("start(0)", x.start(0), 0);
        Scene.counts("", x, true, 0, 0, 0);
        Due.is("key(0, 0)", x.key(0, 0), 0);
    }

    private static void whenDown() {
        Call crash = Call.named("crash");
        Refused.unchanged(crash, Refused::down, new int[0], 0);
        Refused.unchanged(crash, Refused::owing, new int[0], 0);
        Refused.unchanged(crash, Refused::cut, new int[0], 0);
    }

    private static void againAndAgain() {
        CapStore x = new CapStore();
        for (int i = 0; i < 100; i++) {
            Due.is("crash() when up", x.crash(), true);
            Due.is("crash() when DOWN", x.crash(), false);
            Due.is("crash() when DOWN", x.crash(), false);
            Due.is("start(0)", x.start(0), 0);
        }
    }
}
