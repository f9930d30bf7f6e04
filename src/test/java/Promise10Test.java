/** Promise 10: power. */
public final class Promise10Test {
    private static final String PROMISE = "promise 10";

    private Promise10Test() {
    }

    public static void main(String[] args) {
        Due.test(PROMISE, "POWER becomes n (0 .. 63)", Promise10Test::everyNumber);
        Due.test(PROMISE, "POWER becomes n (0 .. 63)", Promise10Test::theLastOneCounts);
        Due.test(PROMISE, "POWER becomes n (0 .. 63)", Promise10Test::nothingElseChanges);
        Due.test(PROMISE, "or endless for -1", Promise10Test::endless);
        Due.test(PROMISE, "n (0 .. 63), or endless for -1", () -> Refused.notNamed("power", 0));
        Due.test(PROMISE, "0, or -1, -2", () -> Refused.whenDown("power"));
        Due.end();
    }

    private static void everyNumber() {
        for (int n = 0; n <= 63; n++) {
            CapStore x = new CapStore();
            Due.is("power(" + n + ")", x.power(n), 0);
            Due.is("isUp() after power(" + n + ")", x.isUp(), true);
            Due.is("blocks with power " + n, Scene.blocksUntilDown(x), n);
        }
    }

    /** POWER becomes n, whatever it was, more or less; nothing is added to it. */
    private static void theLastOneCounts() {
        int[] numbers = {-1, 0, 1, 62, 63};
        for (int first : numbers) {
            for (int last : numbers) {
                CapStore x = new CapStore();
                Due.is("power(" + first + ")", x.power(first), 0);
                Due.is("power(" + last + ")", x.power(last), 0);
                Due.is("blocks with power " + last + " after " + first, Scene.blocksUntilDown(x), last);
            }
        }
    }

    /** Without power the machine is up as long as nothing is to be written. */
    private static void nothingElseChanges() {
        CapStore x = Scene.withDirty(Scene.PAGES);
        Due.is("power(0)", x.power(0), 0);
        Scene.counts(" after power(0)", x, true, Scene.PAGES, Scene.FIRST_WRITES, 1);
        Scene.memory(" after power(0)", x, Scene.PAGES);
        Due.is("place(7, 7, 48) without power", x.place(7, 7, 48), 0);
        Due.is("key(7, 7)", x.key(7, 7), 48);
    }

    private static void endless() {
        CapStore x = new CapStore();
        x.power(0);
        Due.is("power(-1)", x.power(-1), 0);
        for (int i = 0; i < 250; i++) {
            x.place(0, 0, 0);
            Due.is("checkpoint() number " + i, x.checkpoint(), 4);
        }
        Due.is("isUp()", x.isUp(), true);
    }
}
