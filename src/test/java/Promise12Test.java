/** Promise 12: start. */
public final class Promise12Test {
    private static final String PROMISE = "promise 12";

    private Promise12Test() {
    }

    public static void main(String[] args) {
        Due.test(PROMISE, "POWER becomes n (0 .. 63), or endless for -1", Promise12Test::everyNumber);
        Due.test(PROMISE, "POWER becomes n (0 .. 63), or endless for -1", Promise12Test::whateverItWas);
        Due.test(PROMISE, "and it recovers", Promise12Test::recovers);
        Due.test(PROMISE, "how many blocks that wrote if all were written", Promise12Test::nothingToRecover);
        Due.test(PROMISE, "how many blocks that wrote if all were written", Promise12Test::withoutPower);
        Due.test(PROMISE, "how many blocks that wrote if all were written", Promise12Test::eachPowerForEachCount);
        Due.test(PROMISE, "-3 if one was not (it is DOWN still, POWER 0)", Promise12Test::cutOff);
        Due.test(PROMISE, "-1 if it is not DOWN", Promise12Test::whenUp);
        Due.test(PROMISE, "then -2 for another n", Promise12Test::otherNumbers);
        Due.end();
    }

    private static void everyNumber() {
        for (int n = -1; n <= 63; n++) {
            CapStore x = new CapStore();
            x.crash();
            Due.is("start(" + n + ")", x.start(n), 0);
            Due.is("isUp() after start(" + n + ")", x.isUp(), true);
            Due.is("blocks after start(" + n + ")", Scene.blocksUntilDown(x), n);
        }
    }

    private static void whateverItWas() {
        int[] numbers = {-1, 0, 1, 62, 63};
        for (int before : numbers) {
            for (int n : numbers) {
                CapStore x = new CapStore();
                x.power(before);
                x.crash();
                Due.is("start(" + n + ")", x.start(n), 0);
                Due.is("blocks after start(" + n + ") with power " + before + " before", Scene.blocksUntilDown(x), n);
            }
        }
    }

    /** Committed contents come back, those that were not are gone; the calls that need memory work again. */
    private static void recovers() {
        CapStore x = owing(8);
        Due.is("start(63)", x.start(63), 9);
        Scene.counts("", x, true, 0, Scene.FIRST_WRITES + 18, 2);
        Scene.memory("", x, Scene.NODES);
        Scene.disk("", x, Scene.NODES, Scene.NODES, 0);
        CapStore y = Scene.withDirty(Scene.NODES);
        y.power(8);
        y.checkpoint();
        Due.is("start(63)", y.start(63), 0);
        Scene.counts("", y, true, 0, Scene.FIRST_WRITES + 8, 1);
        Scene.memory("", y, 0);
    }

    /** Only a block that is to be written needs power: with none the machine comes up, and goes DOWN at the first block. */
    private static void withoutPower() {
        CapStore x = Scene.withDirty(Scene.PAGES);
        x.crash();
        Due.is("start(0)", x.start(0), 0);
        Scene.counts(" after start(0)", x, true, 0, Scene.FIRST_WRITES, 1);
        Due.is("checkpoint() of nothing", x.checkpoint(), 0);
        Due.is("isUp() after it", x.isUp(), true);
        Due.is("place(5, 5, 5)", x.place(5, 5, 5), 0);
        Due.is("key(5, 5)", x.key(5, 5), 5);
        Due.is("checkpoint() of node 5", x.checkpoint(), -2);
        Scene.counts(" after it", x, false, -1, Scene.FIRST_WRITES, 1);
        Due.is("start(0) again", x.start(0), 0);
        Scene.memory(" after it", x, 0);
    }

    /** After a crash of a new object, after a whole checkpoint, and after one that was cut off before its commit. */
    private static void nothingToRecover() {
        for (int n : new int[] {-1, 0, 1, 63}) {
            CapStore x = new CapStore();
            x.crash();
            Due.is("start(" + n + ") of a new object", x.start(n), 0);
            x.place(7, 0, 9);
            x.power(4);
            x.checkpoint();
            x.crash();
            Due.is("start(" + n + ") after a whole checkpoint", x.start(n), 0);
            Due.is("key(7, 0)", x.key(7, 0), 9);
            x.place(7, 0, 10);
            x.power(1);
            x.checkpoint();
            Due.is("start(" + n + ") after a checkpoint that was not committed", x.start(n), 0);
            Due.is("key(7, 0)", x.key(7, 0), 9);
            Scene.counts("", x, true, 0, 5, 1);
        }
    }

    /** DOWN with a committed checkpoint of the n least objects, none of whose homes is written. */
    private static CapStore owing(int n) {
        CapStore x = Scene.withDirty((1 << n) - 1);
        x.power(n + 1);
        x.checkpoint();
        return x;
    }

    private static void eachPowerForEachCount() {
        for (int n = 1; n <= 12; n++) {
            for (int power = -1; power <= 63; power++) {
                CapStore x = owing(n);
                boolean enough = power == -1 || power >= n + 1;
                Due.is("start(" + power + ") of " + n + " objects", x.start(power), enough ? n + 1 : -3);
                Due.is("isUp() after it", x.isUp(), enough);
                int left = power == -1 ? -1 : power - n - 1;
                Due.is("blocks after it", Scene.blocksUntilDown(x), enough ? left : 0);
            }
        }
    }

    private static void cutOff() {
        for (int n = 1; n <= 12; n++) {
            for (int power = 0; power <= n; power++) {
                CapStore x = owing(n);
                Due.is("start(" + power + ") of " + n + " objects", x.start(power), -3);
                Due.is("isUp()", x.isUp(), false);
                Due.is("writes()", x.writes(), Scene.FIRST_WRITES + n + 1 + power);
                Due.is("start(0)", x.start(0), -3);
                Due.is("writes() after start(0)", x.writes(), Scene.FIRST_WRITES + n + 1 + power);
                Due.is("start(-1)", x.start(-1), n + 1);
                Due.is("isUp() after start(-1)", x.isUp(), true);
            }
        }
    }

    /** Also with a number that would be refused when DOWN. */
    private static void whenUp() {
        Call start = Call.named("start");
        for (int n = -1; n <= 63; n++) {
            Refused.unchanged(start, Refused::up, new int[] {n}, -1);
        }
        for (int n : Numbers.outside(-1, 63)) {
            Refused.unchanged(start, Refused::up, new int[] {n}, -1);
        }
    }

    private static void otherNumbers() {
        Call start = Call.named("start");
        for (int n : Numbers.outside(-1, 63)) {
            Refused.unchanged(start, Refused::down, new int[] {n}, -2);
            Refused.unchanged(start, Refused::owing, new int[] {n}, -2);
            Refused.unchanged(start, Refused::cut, new int[] {n}, -2);
        }
    }
}
