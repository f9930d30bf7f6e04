/** Promise 13: isUp. */
public final class Promise13Test {
    private static final String PROMISE = "promise 13";

    private Promise13Test() {
    }

    public static void main(String[] args) {
        Due.test(PROMISE, "Whether it is not DOWN", Promise13Test::wayThroughAllStates);
        Due.test(PROMISE, "Whether it is not DOWN", Promise13Test::withoutPower);
        Due.test(PROMISE, "Whether it is not DOWN", Promise13Test::refusedCalls);
        Due.end();
    }

    private static void wayThroughAllStates() {
        CapStore x = new CapStore();
        Due.is("isUp() at the beginning", x.isUp(), true);
        x.crash();
        Due.is("isUp() after a crash", x.isUp(), false);
        x.start(-1);
        Due.is("isUp() after a start", x.isUp(), true);
        x.place(0, 0, 1);
        x.checkpoint();
        Due.is("isUp() after a whole checkpoint", x.isUp(), true);
        x.place(0, 0, 2);
        x.power(2);
        x.checkpoint();
        Due.is("isUp() after a checkpoint that was cut off", x.isUp(), false);
        x.start(1);
        Due.is("isUp() after a start that was cut off", x.isUp(), false);
        x.start(2);
        Due.is("isUp() after a start with just enough power", x.isUp(), true);
    }

    /** POWER 0 alone does not bring the machine DOWN. */
    private static void withoutPower() {
        CapStore x = new CapStore();
        x.power(0);
        Due.is("isUp() with power 0", x.isUp(), true);
        x.checkpoint();
        Due.is("isUp() after a checkpoint of nothing", x.isUp(), true);
        x.place(0, 0, 0);
        Due.is("isUp() with something dirty", x.isUp(), true);
        x.power(4);
        x.checkpoint();
        Due.is("isUp() with the last of the power used up", x.isUp(), true);
    }

    private static void refusedCalls() {
        CapStore x = new CapStore();
        x.power(64);
        x.start(5);
        Due.is("isUp() after refused calls", x.isUp(), true);
        x.crash();
        x.start(64);
        x.start(-2);
        x.crash();
        x.power(5);
        x.checkpoint();
        Due.is("isUp() after refused calls when DOWN", x.isUp(), false);
    }
}
