import java.util.ArrayList;
import java.util.List;
import java.util.TreeMap;
import java.util.TreeSet;

/**
 * The document a second time, in another form than the program: keys are taken apart into pairs of
 * object and limits, and what a checkpoint or a recovery writes is listed before it is written.
 */
final class Model {
    private record Step(int block, int[] row, boolean commits) {
    }

    private static final long WIDE = 1L << 32;

    private final TreeMap<Integer, int[]> memory = new TreeMap<>();
    private final int[][] disk = new int[25][8];
    private final TreeSet<Integer> dirty = new TreeSet<>();
    private boolean down = false;
    private int power = Integer.MAX_VALUE;
    private int writes = 0;
    private int commits = 0;

    Model() {
        for (int o = 0; o < 12; o++) {
            memory.put(o, new int[8]);
        }
    }

    long answer(Call call, int[] a) {
        switch (call.name) {
            case "isUp": return down ? 0 : 1;
            case "writes": return writes;
            case "commits": return commits;
            case "disk": return named(call, a) ? disk[a[0]][a[1]] : 0;
            case "start": return start(named(call, a), a[0]);
            case "crash": return crash();
            default: break;
        }
        boolean wide = call.name.equals("read") || call.name.equals("word");
        int refusal = refusal(call, a);
        return refusal == 0 ? done(call.name, a) : wide ? WIDE + refusal : refusal;
    }

    private static boolean named(Call call, int[] a) {
        for (int i = 0; i < a.length; i++) {
            if (a[i] < call.ranges[i][0] || a[i] > call.ranges[i][1]) {
                return false;
            }
        }
        return true;
    }

    private int refusal(Call call, int[] a) {
        if (down) {
            return -1;
        }
        if (!named(call, a)) {
            return -2;
        }
        boolean onNode = call.name.equals("fetch") || call.name.equals("store");
        boolean onPage = call.name.equals("read") || call.name.equals("write");
        boolean changing = call.name.equals("store") || call.name.equals("write");
        if (!onNode && !onPage) {
            return 0;
        }
        int key = memory.get(a[0])[a[1]];
        if (key == 0 || onNode != object(key) < 8) {
            return -3;
        }
        return changing && limits(key) > 0 ? -4 : 0;
    }

    private static int object(int key) {
        int o = 0;
        while (1 + 4 * (o + 1) <= key) {
            o++;
        }
        return o;
    }

    private static int limits(int key) {
        return key - (1 + 4 * object(key));
    }

    private static int with(int key, boolean readOnly, boolean weak) {
        if (key == 0) {
            return 0;
        }
        int l = limits(key);
        boolean r = readOnly || l == 1 || l == 3;
        boolean w = weak || l == 2 || l == 3;
        return 1 + 4 * object(key) + (r ? 1 : 0) + (w ? 2 : 0);
    }

    private long done(String name, int[] a) {
        switch (name) {
            case "place": return set(a[0], a[1], a[2]);
            case "fetch": return fetch(a[0], memory.get(a[0])[a[1]], a[2], a[3]);
            case "store": return set(object(memory.get(a[0])[a[1]]), a[2], memory.get(a[0])[a[3]]);
            case "read": return memory.get(object(memory.get(a[0])[a[1]]))[a[2]];
            case "write": return set(object(memory.get(a[0])[a[1]]), a[2], a[3]);
            case "restrict": return set(a[0], a[3], with(memory.get(a[0])[a[1]], a[2] == 1 || a[2] == 3, a[2] > 1));
            case "clear": return set(a[0], a[1], 0);
            case "checkpoint": return checkpoint();
            case "power": return setPower(a[0]);
            case "key": case "word": return memory.get(a[0])[a[1]];
            case "dirty": return bits();
            default: throw new IllegalStateException(name);
        }
    }

    private long set(int o, int i, int value) {
        memory.get(o)[i] = value;
        dirty.add(o);
        return 0;
    }

    private long fetch(int d, int through, int b, int c) {
        int found = memory.get(object(through))[b];
        boolean weak = limits(through) == 2 || limits(through) == 3;
        return set(d, c, with(found, weak, weak));
    }

    private long setPower(int n) {
        power = n == -1 ? Integer.MAX_VALUE : n;
        return 0;
    }

    private int bits() {
        int sum = 0;
        for (int o : dirty) {
            sum += (int) Math.pow(2, o);
        }
        return sum;
    }

    private long checkpoint() {
        List<Step> steps = new ArrayList<>();
        if (!dirty.isEmpty()) {
            dirty.forEach(o -> steps.add(new Step(12 + o, memory.get(o), false)));
            steps.add(new Step(24, new int[] {bits(), 0, 0, 0, 0, 0, 0, 0}, true));
            dirty.forEach(o -> steps.add(new Step(o, memory.get(o), false)));
            steps.add(new Step(24, new int[8], false));
        }
        if (!carriedOut(steps)) {
            down = true;
            return -2;
        }
        dirty.clear();
        return steps.size();
    }

    private long crash() {
        boolean was = down;
        down = true;
        return was ? 0 : 1;
    }

    private long start(boolean named, int n) {
        if (!down) {
            return -1;
        }
        if (!named) {
            return -2;
        }
        setPower(n);
        List<Step> steps = new ArrayList<>();
        if (disk[24][0] != 0) {
            for (int o = 0; o < 12; o++) {
                if (Integer.toBinaryString(disk[24][0] + (1 << 12)).charAt(12 - o) == '1') {
                    steps.add(new Step(o, disk[12 + o], false));
                }
            }
            steps.add(new Step(24, new int[8], false));
        }
        if (!carriedOut(steps)) {
            return -3;
        }
        memory.replaceAll((o, row) -> disk[o].clone());
        dirty.clear();
        down = false;
        return steps.size();
    }

    private boolean carriedOut(List<Step> steps) {
        for (Step step : steps) {
            if (power == 0) {
                return false;
            }
            disk[step.block()] = step.row().clone();
            power -= power == Integer.MAX_VALUE ? 0 : 1;
            writes++;
            commits += step.commits() ? 1 : 0;
        }
        return true;
    }
}
