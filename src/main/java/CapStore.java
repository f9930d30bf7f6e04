/**
 * A store of objects that are reached through keys, in memory, with a disk to which the whole of it
 * is saved by checkpoints, and power that can fail between any two blocks.
 */
public final class CapStore {
    private static final int NODES = 8;
    private static final int OBJECTS = 12;
    private static final int DOMAINS = 3;
    /** The slots of a node, the words of a page and the words of a block are all this many. */
    private static final int ROW = 8;

    private static final int FIRST_LOG = OBJECTS;
    private static final int HEADER = 2 * OBJECTS;
    private static final int BLOCKS = HEADER + 1;

    private static final int EMPTY_KEY = 0;
    private static final int FIRST_KEY = 1;
    private static final int KEYS_OF_OBJECT = 4;
    private static final int FIRST_PAGE_KEY = FIRST_KEY + KEYS_OF_OBJECT * NODES;
    private static final int LAST_KEY = KEYS_OF_OBJECT * OBJECTS;

    private static final int WEAK = 2;
    private static final int ALL_LIMITS = 3;

    private static final int ENDLESS = -1;
    private static final int MOST_POWER = 63;

    private static final int DONE = 0;
    private static final int IS_DOWN = -1;
    private static final int NOT_NAMED = -2;
    private static final int WRONG_KIND = -3;
    private static final int NOT_WRITING = -4;

    private static final int ALREADY_UP = -1;
    private static final int CHECKPOINT_CUT = -2;
    private static final int RECOVERY_CUT = -3;

    /** Every int is a word, so the refusals of calls that answer a word lie above all ints. */
    private static final long ABOVE_WORDS = 4294967296L;

    private final int[] memory;
    private final int[] blocks;
    /** Kept for the whole life of the store, so that no call has to make a row. */
    private final int[] headerRow;
    private int dirtySet;
    private int powerLeft;
    private boolean running;
    private int written;
    private int committed;

    public CapStore() {
        memory = new int[OBJECTS * ROW];
        blocks = new int[BLOCKS * ROW];
        headerRow = new int[ROW];
        dirtySet = 0;
        powerLeft = ENDLESS;
        running = true;
        written = 0;
        committed = 0;
    }

    public int place(int n, int s, int k) {
        int refused = refusal(isNode(n) && isInRow(s) && isKey(k));
        if (refused != DONE) {
            return refused;
        }
        put(n, s, k);
        return DONE;
    }

    public int fetch(int d, int a, int b, int c) {
        int refused = nodeRefusal(d, a, isInRow(b) && isInRow(c));
        if (refused != DONE) {
            return refused;
        }
        int through = get(d, a);
        int found = get(objectOf(through), b);
        put(d, c, isWeak(through) ? limited(found, ALL_LIMITS) : found);
        return DONE;
    }

    public int store(int d, int a, int b, int c) {
        int refused = nodeRefusal(d, a, isInRow(b) && isInRow(c));
        if (refused != DONE) {
            return refused;
        }
        int through = get(d, a);
        if (!isWriting(through)) {
            return NOT_WRITING;
        }
        put(objectOf(through), b, get(d, c));
        return DONE;
    }

    public long read(int d, int a, int b) {
        int refused = pageRefusal(d, a, isInRow(b));
        if (refused != DONE) {
            return ABOVE_WORDS + refused;
        }
        return get(objectOf(get(d, a)), b);
    }

    public int write(int d, int a, int b, int v) {
        int refused = pageRefusal(d, a, isInRow(b));
        if (refused != DONE) {
            return refused;
        }
        int through = get(d, a);
        if (!isWriting(through)) {
            return NOT_WRITING;
        }
        put(objectOf(through), b, v);
        return DONE;
    }

    public int restrict(int d, int a, int l, int c) {
        int refused = refusal(isRegister(d, a) && isLimits(l) && isInRow(c));
        if (refused != DONE) {
            return refused;
        }
        put(d, c, limited(get(d, a), l));
        return DONE;
    }

    public int clear(int d, int a) {
        int refused = refusal(isRegister(d, a));
        if (refused != DONE) {
            return refused;
        }
        put(d, a, EMPTY_KEY);
        return DONE;
    }

    public int checkpoint() {
        if (!running) {
            return IS_DOWN;
        }
        int before = written;
        if (!saveDirty()) {
            return CHECKPOINT_CUT;
        }
        dirtySet = 0;
        return written - before;
    }

    public int power(int n) {
        int refused = refusal(isPower(n));
        if (refused != DONE) {
            return refused;
        }
        powerLeft = n;
        return DONE;
    }

    public boolean crash() {
        boolean wasRunning = running;
        running = false;
        return wasRunning;
    }

    public int start(int n) {
        if (running) {
            return ALREADY_UP;
        }
        if (!isPower(n)) {
            return NOT_NAMED;
        }
        powerLeft = n;
        int before = written;
        if (!finishCommitted()) {
            return RECOVERY_CUT;
        }
        loadHomes();
        running = true;
        return written - before;
    }

    public boolean isUp() {
        return running;
    }

    public int key(int n, int s) {
        int refused = refusal(isNode(n) && isInRow(s));
        return refused != DONE ? refused : get(n, s);
    }

    public long word(int p, int i) {
        int refused = refusal(isPage(p) && isInRow(i));
        return refused != DONE ? ABOVE_WORDS + refused : get(p, i);
    }

    public int dirty() {
        return running ? dirtySet : IS_DOWN;
    }

    public int disk(int b, int i) {
        return isBlock(b) && isInRow(i) ? blocks[b * ROW + i] : 0;
    }

    public int writes() {
        return written;
    }

    public int commits() {
        return committed;
    }

    /** DOWN comes before wrong numbers, so every call asks for both here, in that order. */
    private int refusal(boolean named) {
        if (!running) {
            return IS_DOWN;
        }
        return named ? DONE : NOT_NAMED;
    }

    /** The register is looked into only when its numbers have passed. */
    private int nodeRefusal(int d, int a, boolean othersNamed) {
        int refused = refusal(isRegister(d, a) && othersNamed);
        if (refused != DONE) {
            return refused;
        }
        return isNodeKey(get(d, a)) ? DONE : WRONG_KIND;
    }

    private int pageRefusal(int d, int a, boolean othersNamed) {
        int refused = refusal(isRegister(d, a) && othersNamed);
        if (refused != DONE) {
            return refused;
        }
        return isPageKey(get(d, a)) ? DONE : WRONG_KIND;
    }

    private static boolean isNode(int o) {
        return o >= 0 && o < NODES;
    }

    private static boolean isPage(int o) {
        return o >= NODES && o < OBJECTS;
    }

    private static boolean isInRow(int i) {
        return i >= 0 && i < ROW;
    }

    private static boolean isRegister(int d, int a) {
        return d >= 0 && d < DOMAINS && isInRow(a);
    }

    private static boolean isLimits(int l) {
        return l >= 0 && l <= ALL_LIMITS;
    }

    private static boolean isPower(int n) {
        return n == ENDLESS || n >= 0 && n <= MOST_POWER;
    }

    private static boolean isBlock(int b) {
        return b >= 0 && b < BLOCKS;
    }

    private static boolean isKey(int k) {
        return k >= EMPTY_KEY && k <= LAST_KEY;
    }

    private static boolean isNodeKey(int k) {
        return k >= FIRST_KEY && k < FIRST_PAGE_KEY;
    }

    private static boolean isPageKey(int k) {
        return k >= FIRST_PAGE_KEY && k <= LAST_KEY;
    }

    private static int objectOf(int k) {
        return (k - FIRST_KEY) / KEYS_OF_OBJECT;
    }

    private static int limitsOf(int k) {
        return (k - FIRST_KEY) % KEYS_OF_OBJECT;
    }

    private static boolean isWriting(int k) {
        return limitsOf(k) == 0;
    }

    private static boolean isWeak(int k) {
        return (limitsOf(k) & WEAK) != 0;
    }

    /** The empty key names no object that could be limited, so it stays as it is. */
    private static int limited(int k, int l) {
        if (k == EMPTY_KEY) {
            return EMPTY_KEY;
        }
        return FIRST_KEY + KEYS_OF_OBJECT * objectOf(k) + (limitsOf(k) | l);
    }

    private int get(int o, int i) {
        return memory[o * ROW + i];
    }

    /** An object counts as dirty even if it held this value already. */
    private void put(int o, int i, int value) {
        memory[o * ROW + i] = value;
        dirtySet |= 1 << o;
    }

    private static boolean has(int set, int o) {
        return (set >> o & 1) != 0;
    }

    /** All logs come before the header and all homes after it, so that a cut leaves old or new, never a mixture. */
    private boolean saveDirty() {
        if (dirtySet == 0) {
            return true;
        }
        if (!copyRows(dirtySet, memory, 0, FIRST_LOG) || !writeHeader(dirtySet)) {
            return false;
        }
        committed++;
        return copyRows(dirtySet, memory, 0, 0) && writeHeader(0);
    }

    /** A set in the header means that a committed checkpoint was cut off: its logs are whole, its homes may not be. */
    private boolean finishCommitted() {
        int owed = blocks[HEADER * ROW];
        if (owed == 0) {
            return true;
        }
        return copyRows(owed, blocks, FIRST_LOG, 0) && writeHeader(0);
    }

    /** Homes and rows of memory have the same order, so one copy brings them all. */
    private void loadHomes() {
        System.arraycopy(blocks, 0, memory, 0, OBJECTS * ROW);
        dirtySet = 0;
    }

    /** Goes no further than the first block that finds no power, for the machine is DOWN from there on. */
    private boolean copyRows(int set, int[] from, int fromRow, int toBlock) {
        for (int o = 0; o < OBJECTS; o++) {
            if (has(set, o) && !writeBlock(toBlock + o, from, fromRow + o)) {
                return false;
            }
        }
        return true;
    }

    private boolean writeHeader(int set) {
        headerRow[0] = set;
        return writeBlock(HEADER, headerRow, 0);
    }

    /** The only way to the disk, so that no block gets there without power. */
    private boolean writeBlock(int block, int[] from, int fromRow) {
        if (powerLeft == 0) {
            running = false;
            return false;
        }
        System.arraycopy(from, fromRow * ROW, blocks, block * ROW, ROW);
        if (powerLeft != ENDLESS) {
            powerLeft--;
        }
        written++;
        return true;
    }
}
