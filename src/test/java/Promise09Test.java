/** Promise 9: checkpoint. */
public final class Promise09Test {
    private static final String PROMISE = "promise 9";

    private Promise09Test() {
    }

    public static void main(String[] args) {
        Due.test(PROMISE, "how many blocks it wrote if all were written", Promise09Test::nothingDirty);
        Due.test(PROMISE, "how many blocks it wrote if all were written", Promise09Test::everySet);
        Due.test(PROMISE, "how many blocks it wrote if all were written", Promise09Test::allObjects);
        Due.test(PROMISE, "-2 if one was not (the machine is DOWN now)", Promise09Test::eachPowerForEachCount);
        Due.test(PROMISE, "-1 if it was DOWN before", () -> Refused.whenDown("checkpoint"));
        Due.end();
    }

    /** At the beginning, after a checkpoint, after a start and after refused calls, with no power and with power left. */
    private static void nothingDirty() {
        CapStore x = new CapStore();
        for (int power : new int[] {0, 1, 63, -1}) {
            x.power(power);
            Due.is("checkpoint() at the beginning", x.checkpoint(), 0);
        }
        x.place(7, 7, 48);
        Due.is("checkpoint() of one object", x.checkpoint(), 4);
        Due.is("checkpoint() after a checkpoint", x.checkpoint(), 0);
        x.place(0, 0, 1);
        x.crash();
        x.start(0);
        Due.is("checkpoint() after a start", x.checkpoint(), 0);
        x.place(8, 0, 1);
        x.write(0, 0, 0, 1);
        Due.is("checkpoint() after refused calls", x.checkpoint(), 0);
        Scene.counts("", x, true, 0, 4, 1);
    }

    private static CapStore withPageKeys() {
        CapStore x = new CapStore();
        for (int p = 8; p < 12; p++) {
            x.place(0, p - 8, 1 + 4 * p);
        }
        x.checkpoint();
        return x;
    }

    private static void makeDirty(CapStore x, int set) {
        for (int o = 0; o < 12; o++) {
            if (Scene.has(set, o)) {
                Due.is("making object " + o + " dirty", o < 8 ? x.place(o, 7, 3) : x.write(0, o - 8, 7, 3), 0);
            }
        }
    }

    private static void everySet() {
        for (int set = 1; set <= Scene.ALL; set++) {
            CapStore x = withPageKeys();
            makeDirty(x, set);
            Due.is("dirty()", x.dirty(), set);
            Due.is("checkpoint() of set " + set, x.checkpoint(), 2 * Integer.bitCount(set) + 2);
            Scene.counts(" after it", x, true, 0, 6 + 2 * Integer.bitCount(set), 2);
        }
    }

    private static void allObjects() {
        CapStore x = withPageKeys();
        makeDirty(x, Scene.ALL);
        Due.is("checkpoint() of all objects", x.checkpoint(), 26);
        makeDirty(x, Scene.ALL);
        Due.is("checkpoint() of all objects again", x.checkpoint(), 26);
        Scene.counts("", x, true, 0, 56, 3);
    }

    private static void eachPowerForEachCount() {
        for (int n = 1; n <= 12; n++) {
            for (int power = 0; power <= 63; power++) {
                CapStore x = withPageKeys();
                makeDirty(x, (1 << n) - 1);
                x.power(power);
                boolean enough = power >= 2 * n + 2;
                Due.is("checkpoint() of " + n + " objects with power " + power, x.checkpoint(), enough ? 2 * n + 2 : -2);
                Due.is("isUp() after it", x.isUp(), enough);
                Due.is("checkpoint() after it", x.checkpoint(), enough ? 0 : -1);
            }
        }
    }
}
