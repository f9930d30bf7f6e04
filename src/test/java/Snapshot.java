import java.util.ArrayList;
import java.util.List;
import java.util.function.Consumer;
import java.util.function.ToLongFunction;

/**
 * All that can be seen of a store: DOWN, dirty, writes, commits, the disk, memory and POWER. Taking
 * one uses up the store: it spends its power, and two would not fit into the 512 calls that the
 * document allows on one object.
 */
final class Snapshot {
    private final List<String> asked = new ArrayList<>();
    private final List<Long> seen = new ArrayList<>();

    private Snapshot(CapStore x) {
        see("isUp()", x.isUp() ? 1 : 0);
        see("dirty()", x.dirty());
        see("writes()", x.writes());
        see("commits()", x.commits());
        seeDisk(x);
        if (!x.isUp()) {
            see("start(-1)", x.start(-1));
            see("writes() after a start", x.writes());
        }
        seeMemory(x);
        seePower(x);
    }

    private void see(String call, long answer) {
        asked.add(call);
        seen.add(answer);
    }

    private void seeDisk(CapStore x) {
        for (int b = 0; b < 25; b++) {
            for (int i = 0; i < 8; i++) {
                see("disk(" + b + ", " + i + ")", x.disk(b, i));
            }
        }
    }

    private void seeMemory(CapStore x) {
        for (int o = 0; o < 12; o++) {
            for (int i = 0; i < 8; i++) {
                see("word or slot " + i + " of object " + o, o < 8 ? x.key(o, i) : x.word(o, i));
            }
        }
    }

    /** 17 checkpoints write 68 blocks, so only endless power outlasts them. */
    private void seePower(CapStore x) {
        for (int i = 0; i < 17; i++) {
            x.place(0, 0, 0);
            x.checkpoint();
        }
        see("isUp() after 68 blocks", x.isUp() ? 1 : 0);
        see("writes() after 68 blocks", x.writes());
    }

    private static Snapshot after(Consumer<CapStore> script) {
        CapStore x = new CapStore();
        script.accept(x);
        return new Snapshot(x);
    }

    /** Checks that a call after the script answers what is due and leaves all as it was. */
    static void unchanged(String text, Consumer<CapStore> script, ToLongFunction<CapStore> call, long want) {
        Snapshot before = after(script);
        Snapshot after = after(x -> {
            script.accept(x);
            Due.is(text, call.applyAsLong(x), want);
        });
        Due.is("how much is seen after " + text, after.seen.size(), before.seen.size());
        for (int i = 0; i < before.seen.size() && i < after.seen.size(); i++) {
            Due.is(before.asked.get(i) + " after " + text, after.seen.get(i), before.seen.get(i));
        }
    }
}
