import java.util.TreeSet;

/** Numbers at and beyond the ends of ranges. */
final class Numbers {
    static final int LEAST = Integer.MIN_VALUE;
    static final int GREATEST = Integer.MAX_VALUE;
    /** Among them the refusals of calls that answer an int, and all that an int's ends could break. */
    static final int[] WORDS = {
        0, 1, -1, -2, -3, -4, 48, 49, 77, 255, 256, -256, 65535, 65536, GREATEST - 1, GREATEST, LEAST, LEAST + 1};
    /** A wrap-around of 32 bits, a row of 8 or a narrower type could bring numbers this far off back. */
    private static final int[] FAR = {8, 12, 16, 64, 96, 128, 256, 65536, 1 << 28, 1 << 29, 1 << 30, 1 << 31};

    private Numbers() {
    }

    /** One below and one above the range, the least and the greatest int, and numbers that look like one inside. */
    static TreeSet<Integer> outside(int least, int greatest) {
        TreeSet<Integer> all = new TreeSet<>();
        for (int n : new int[] {least - 1, greatest + 1, LEAST, LEAST + 1, GREATEST - 1, GREATEST}) {
            all.add(n);
        }
        for (int far : FAR) {
            for (int end : new int[] {least, greatest}) {
                all.add(end + far);
                all.add(end - far);
            }
        }
        all.removeIf(n -> n >= least && n <= greatest);
        return all;
    }
}
