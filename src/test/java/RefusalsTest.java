import java.util.function.Supplier;
import java.util.function.ToIntFunction;

/**
 * Part 1: "REFUSALS are answers, of several the first one", and "What is refused changes nothing". Each refused call
 * is made on one of two equal objects; then both must tell the same, and answer the same to all that comes after.
 */
public final class RefusalsTest {
    private static final Due DUE = new Due();
    private static final int MIN = Integer.MIN_VALUE, MAX = Integer.MAX_VALUE;

    public static void main(String[] args) {
        busy(RefusalsTest::busyStore, "");
        busy(() -> armed(busyStore()), "power set, ");
        afterSweep(RefusalsTest::idleStore, "");
        afterSweep(() -> armed(idleStore()), "power set, ");
        deadAndFull(RefusalsTest::deadAndFullStore, "");
        deadAndFull(() -> armed(deadAndFullStore()), "power set, ");
        manySnapshots(RefusalsTest::tenSnapshots, "");
        manySnapshots(() -> armed(tenSnapshots()), "power set, ");
        fullStores();
        down();
        told();
        DUE.end();
    }

    // ---- the stores

    /**
     * Snapshot 0 with blocks 0, 1, 2; block 3 waits; saver 0 uses 4 to 11 and has 4 children in its row; saver 1 is
     * DEAD, uses 0 and has it in its row; saver 2 uses none; a sweep marks.
     */
    private static SafeSweeps busyStore() {
        SafeSweeps x = new SafeSweeps(20);
        x.at(0);
        x.begin(1000);
        for (int i = 0; i < 3; i++) {
            x.save(0, i, 5);
        }
        x.commit(0, 1);
        x.begin(1000);
        x.save(0, 3, 5);
        x.give(0);
        x.sweep();
        x.step(500);
        x.begin(1000);
        for (int i = 4; i < 12; i++) {
            x.save(0, i, 1);
        }
        for (int i = 0; i < 4; i++) {
            x.child(0, 4 + i);
        }
        x.begin(5);
        x.take(1, 0);
        x.child(1, 0);
        x.begin(1000);
        x.share(60);
        x.rule(2, 7);
        x.follow(0, 2);
        x.sweep();
        x.at(6);
        return x;
    }

    /** Snapshots 0 and 1, no rule keeps them; block 2 is freed; four savers: 0 uses 0, the others none; no sweep. */
    private static SafeSweeps idleStore() {
        SafeSweeps x = new SafeSweeps(20);
        for (int i = 0; i < 3; i++) {
            x.begin(100);
            x.save(0, i, 5);
            x.commit(0, i);
        }
        x.drop(2);
        for (int i = 0; i < 2; i++) {
            x.sweep();
            x.step(500);
        }
        for (int i = 0; i < 4; i++) {
            x.begin(100);
        }
        x.take(0, 0);
        return x;
    }

    /** Saver 0 is DEAD, uses 8 blocks and has 4 children in its row; saver 1 uses 8 others and has an empty row. */
    private static SafeSweeps deadAndFullStore() {
        SafeSweeps x = new SafeSweeps(40);
        x.begin(5);
        x.begin(1000);
        for (int i = 0; i < 16; i++) {
            x.save(i / 8, i, 3);
        }
        for (int i = 0; i < 4; i++) {
            x.child(0, i);
        }
        x.at(0);
        x.begin(10);
        x.give(1);
        x.begin(10);
        for (int i = 8; i < 16; i++) {
            x.take(1, i);
        }
        return x;
    }

    /** Ten snapshots are there; saver 0 uses one, 1 none, 2 one and is DEAD. */
    private static SafeSweeps tenSnapshots() {
        SafeSweeps x = new SafeSweeps(40);
        for (int i = 0; i < 10; i++) {
            x.begin(10);
            x.save(0, i, 3);
            x.commit(0, 0);
        }
        x.begin(10);
        x.begin(10);
        x.begin(5);
        x.take(2, 4);
        x.at(-10000000000L + 6);
        x.take(0, 3);
        return x;
    }

    private static SafeSweeps armed(SafeSweeps x) {
        x.cut(0);
        return x;
    }

    // ---- one refused call

    private static void refused(String label, Supplier<SafeSweeps> store, ToIntFunction<SafeSweeps> call, int due) {
        SafeSweeps asked = store.get();
        DUE.is(label, call.applyAsInt(asked), due);
        DUE.same(label + ": tells the same", Picture.of(asked), Picture.of(store.get()));
        SafeSweeps used = store.get();
        call.applyAsInt(used);
        DUE.same(label + ": goes on the same", goesOn(used), goesOn(store.get()));
    }

    /** Answers that depend on what is not told: NOW, rules, SHARE, the rows of children, the power that is set. */
    private static String goesOn(SafeSweeps x) {
        StringBuilder answers = new StringBuilder();
        for (int kind = 0; kind < 6; kind++) {
            answers.append(x.rule(kind, 0)).append(' ');
        }
        answers.append(x.share(50)).append(' ').append(x.step(3)).append(' ');
        for (int saver = 0; saver < 4; saver++) {
            int made = x.save(saver, 700 + saver, 1);
            answers.append("save ").append(made).append(' ').append(x.block(made, 7)).append(' ').append(x.block(made, 8)).append(' ');
            int snapshot = x.commit(saver, saver);
            answers.append("commit ").append(snapshot).append(' ').append(x.time(snapshot)).append(' ');
        }
        answers.append("open ").append(x.open()).append(" begin ").append(x.begin(1)).append(' ').append(x.save(0, 800, 1)).append(' ');
        answers.append("step ").append(x.step(500)).append(" sweep ").append(x.sweep()).append(' ').append(x.step(500));
        answers.append(" follow ").append(x.follow(0, 1)).append(' ').append(x.follow(1, 1)).append(' ').append(x.count(8));
        return answers.toString();
    }

    private static void busy(Supplier<SafeSweeps> store, String when) {
        timesAndSavers(store, when + "busy: ");
        childRefused(store, when + "busy: ");
        saveAndTakeRefused(store, when + "busy: ");
        commitRefused(store, when + "busy: ");
        othersRefused(store, when + "busy: ");
    }

    private static void timesAndSavers(Supplier<SafeSweeps> store, String when) {
        refused(when + "at, below NOW", store, x -> x.at(5), SafeSweeps.OUTSIDE);
        refused(when + "at, the least", store, x -> x.at(Long.MIN_VALUE), SafeSweeps.OUTSIDE);
        refused(when + "at, above the last", store, x -> x.at(1000000000001L), SafeSweeps.OUTSIDE);
        refused(when + "at, the greatest", store, x -> x.at(Long.MAX_VALUE), SafeSweeps.OUTSIDE);
        for (int lease : new int[] {0, -1, 1000001, MIN, MAX}) {
            refused(when + "begin(" + lease + ")", store, x -> x.begin(lease), SafeSweeps.OUTSIDE);
        }
        for (int saver : new int[] {-1, 3, 4, MIN, MAX}) {
            refused(when + "give(" + saver + ")", store, x -> x.give(saver), SafeSweeps.UNKNOWN);
        }
    }

    private static void childRefused(Supplier<SafeSweeps> store, String when) {
        for (int saver : new int[] {-1, 3, 4, MIN, MAX}) {
            refused(when + "child, no saver " + saver, store, x -> x.child(saver, 4), SafeSweeps.UNKNOWN);
            refused(when + "child, no saver, no block " + saver, store, x -> x.child(saver, 12), SafeSweeps.UNKNOWN);
        }
        for (int block : new int[] {-1, 12, 80, MIN, MAX}) {
            refused(when + "child, no block before a full row " + block, store, x -> x.child(0, block), SafeSweeps.UNKNOWN);
            refused(when + "child, no block before DEAD " + block, store, x -> x.child(1, block), SafeSweeps.UNKNOWN);
            refused(when + "child, no block before uses none " + block, store, x -> x.child(2, block), SafeSweeps.UNKNOWN);
        }
        refused(when + "child, DEAD", store, x -> x.child(1, 0), SafeSweeps.STATE);
        refused(when + "child, DEAD and not used", store, x -> x.child(1, 4), SafeSweeps.STATE);
        refused(when + "child, not used before a full row", store, x -> x.child(0, 0), SafeSweeps.STATE);
        refused(when + "child, not used", store, x -> x.child(2, 0), SafeSweeps.STATE);
        refused(when + "child, a fifth", store, x -> x.child(0, 4), SafeSweeps.ROOM);
    }

    private static void saveAndTakeRefused(Supplier<SafeSweeps> store, String when) {
        for (int saver : new int[] {-1, 3, 4, MIN, MAX}) {
            refused(when + "save, no saver " + saver, store, x -> x.save(saver, 1, 5), SafeSweeps.UNKNOWN);
            refused(when + "save, no saver before a size " + saver, store, x -> x.save(saver, 1, 0), SafeSweeps.UNKNOWN);
            refused(when + "take, no saver " + saver, store, x -> x.take(saver, 3), SafeSweeps.UNKNOWN);
        }
        for (int size : new int[] {0, -1, 21, MIN, MAX}) {
            refused(when + "save, size before ROOM " + size, store, x -> x.save(0, 1, size), SafeSweeps.OUTSIDE);
            refused(when + "save, size before DEAD " + size, store, x -> x.save(1, 1, size), SafeSweeps.OUTSIDE);
            refused(when + "save, size " + size, store, x -> x.save(2, 1, size), SafeSweeps.OUTSIDE);
        }
        refused(when + "save, DEAD, a new one", store, x -> x.save(1, 99, 5), SafeSweeps.STATE);
        refused(when + "save, a ninth", store, x -> x.save(0, 99, 1), SafeSweeps.ROOM);
        for (int block : new int[] {-1, 12, 80, MIN, MAX}) {
            refused(when + "take, no block before ROOM " + block, store, x -> x.take(0, block), SafeSweeps.UNKNOWN);
            refused(when + "take, no block before DEAD " + block, store, x -> x.take(1, block), SafeSweeps.UNKNOWN);
            refused(when + "take, no block " + block, store, x -> x.take(2, block), SafeSweeps.UNKNOWN);
        }
        refused(when + "take, DEAD, one that waits", store, x -> x.take(1, 3), SafeSweeps.STATE);
        refused(when + "take, DEAD, one it uses", store, x -> x.take(1, 0), SafeSweeps.STATE);
        refused(when + "take, a ninth that waits", store, x -> x.take(0, 3), SafeSweeps.ROOM);
        refused(when + "take, a ninth that is not marked", store, x -> x.take(0, 0), SafeSweeps.ROOM);
    }

    private static void commitRefused(Supplier<SafeSweeps> store, String when) {
        for (int saver : new int[] {-1, 3, 4, MIN, MAX}) {
            refused(when + "commit, no saver " + saver, store, x -> x.commit(saver, 0), SafeSweeps.UNKNOWN);
            refused(when + "commit, no saver before a tag " + saver, store, x -> x.commit(saver, 4), SafeSweeps.UNKNOWN);
        }
        for (int tag : new int[] {-1, 4, MIN, MAX}) {
            refused(when + "commit, tag " + tag, store, x -> x.commit(0, tag), SafeSweeps.OUTSIDE);
            refused(when + "commit, tag before DEAD " + tag, store, x -> x.commit(1, tag), SafeSweeps.OUTSIDE);
            refused(when + "commit, tag before uses none " + tag, store, x -> x.commit(2, tag), SafeSweeps.OUTSIDE);
        }
        refused(when + "commit, DEAD", store, x -> x.commit(1, 0), SafeSweeps.STATE);
        refused(when + "commit, uses none", store, x -> x.commit(2, 0), SafeSweeps.STATE);
    }

    private static void othersRefused(Supplier<SafeSweeps> store, String when) {
        for (int snapshot : new int[] {-1, 1, 39, 40, MIN, MAX}) {
            refused(when + "drop(" + snapshot + ")", store, x -> x.drop(snapshot), SafeSweeps.UNKNOWN);
            refused(when + "keeps(" + snapshot + ")", store, x -> x.keeps(snapshot), SafeSweeps.UNKNOWN);
        }
        for (int kind : new int[] {-1, 6, MIN, MAX}) {
            refused(when + "rule(" + kind + ", 1)", store, x -> x.rule(kind, 1), SafeSweeps.OUTSIDE);
            refused(when + "rule(" + kind + ", -1)", store, x -> x.rule(kind, -1), SafeSweeps.OUTSIDE);
        }
        for (int kind = 0; kind < 6; kind++) {
            for (int n : new int[] {-1, kind == 5 ? 16 : 101, MIN, MAX}) {
                int its = kind;
                refused(when + "rule(" + kind + ", " + n + ")", store, x -> x.rule(its, n), SafeSweeps.OUTSIDE);
            }
        }
        refused(when + "sweep, one is under way", store, x -> x.sweep(), SafeSweeps.STATE);
        for (int n : new int[] {0, -1, 501, MIN, MAX}) {
            refused(when + "step(" + n + ")", store, x -> x.step(n), SafeSweeps.OUTSIDE);
        }
        for (int percent : new int[] {-1, 101, MIN, MAX}) {
            refused(when + "share(" + percent + ")", store, x -> x.share(percent), SafeSweeps.OUTSIDE);
        }
        for (int n : new int[] {-2, 501, MIN, MAX}) {
            refused(when + "cut(" + n + ")", store, x -> x.cut(n), SafeSweeps.OUTSIDE);
        }
        refused(when + "open, it is not DOWN", store, x -> x.open(), SafeSweeps.STATE);
        followRefused(store, when);
    }

    private static void followRefused(Supplier<SafeSweeps> store, String when) {
        for (int mirror : new int[] {-1, 2, MIN, MAX}) {
            refused(when + "follow(" + mirror + ", 1)", store, x -> x.follow(mirror, 1), SafeSweeps.UNKNOWN);
            refused(when + "follow(" + mirror + ", 501)", store, x -> x.follow(mirror, 501), SafeSweeps.UNKNOWN);
        }
        for (int n : new int[] {-1, 501, MIN, MAX}) {
            refused(when + "follow(0, " + n + ")", store, x -> x.follow(0, n), SafeSweeps.OUTSIDE);
            refused(when + "follow(1, " + n + ")", store, x -> x.follow(1, n), SafeSweeps.OUTSIDE);
        }
    }

    private static void afterSweep(Supplier<SafeSweeps> store, String when) {
        refused(when + "step(1) without a sweep", store, x -> x.step(1), SafeSweeps.STATE);
        refused(when + "step(500) without a sweep", store, x -> x.step(500), SafeSweeps.STATE);
        refused(when + "step(0) without a sweep: OUTSIDE before STATE", store, x -> x.step(0), SafeSweeps.OUTSIDE);
        refused(when + "step(501) without a sweep: OUTSIDE before STATE", store, x -> x.step(501), SafeSweeps.OUTSIDE);
        refused(when + "prune(false), none would be kept", store, x -> x.prune(false), SafeSweeps.STATE);
        refused(when + "begin, a fifth", store, x -> x.begin(1), SafeSweeps.ROOM);
        refused(when + "begin, a fifth, lease 0: OUTSIDE before ROOM", store, x -> x.begin(0), SafeSweeps.OUTSIDE);
        refused(when + "begin, a fifth, lease 1000001", store, x -> x.begin(1000001), SafeSweeps.OUTSIDE);
        refused(when + "take, a freed block", store, x -> x.take(0, 2), SafeSweeps.UNKNOWN);
        refused(when + "child, a freed block", store, x -> x.child(0, 2), SafeSweeps.UNKNOWN);
        refused(when + "drop, a snapshot that went", store, x -> x.drop(2), SafeSweeps.UNKNOWN);
        refused(when + "keeps, a snapshot that went", store, x -> x.keeps(2), SafeSweeps.UNKNOWN);
    }

    private static void deadAndFull(Supplier<SafeSweeps> store, String when) {
        refused(when + "save, DEAD before ROOM, a new one", store, x -> x.save(0, 99, 1), SafeSweeps.STATE);
        refused(when + "take, DEAD before ROOM", store, x -> x.take(0, 8), SafeSweeps.STATE);
        refused(when + "child, DEAD before ROOM", store, x -> x.child(0, 0), SafeSweeps.STATE);
        refused(when + "save, a ninth that would be found", store, x -> x.save(1, 7, 3), SafeSweeps.ROOM);
        refused(when + "save, a ninth that is new", store, x -> x.save(1, 99, 3), SafeSweeps.ROOM);
        refused(when + "take, a ninth", store, x -> x.take(1, 0), SafeSweeps.ROOM);
    }

    private static void manySnapshots(Supplier<SafeSweeps> store, String when) {
        refused(when + "commit, an eleventh", store, x -> x.commit(0, 0), SafeSweeps.ROOM);
        refused(when + "commit, a tag before ROOM", store, x -> x.commit(0, 4), SafeSweeps.OUTSIDE);
        refused(when + "commit, no saver before ROOM", store, x -> x.commit(3, 0), SafeSweeps.UNKNOWN);
        refused(when + "commit, uses none before ROOM", store, x -> x.commit(1, 0), SafeSweeps.STATE);
        refused(when + "commit, DEAD before ROOM", store, x -> x.commit(2, 0), SafeSweeps.STATE);
    }

    /** 80 blocks, or 40 packs, and a saver with two children in its row. */
    private static SafeSweeps fullStore(int blocks, int size) {
        SafeSweeps x = new SafeSweeps(20);
        for (int i = 0; i < blocks; i++) {
            if (i % 8 == 0) {
                x.give(0);
                x.begin(10);
            }
            x.save(0, i, size);
        }
        x.give(0);
        x.begin(10);
        x.take(0, 0);
        x.child(0, 0);
        x.child(0, 0);
        return x;
    }

    private static void fullStores() {
        refused("save, an 81st block", () -> fullStore(80, 1), x -> x.save(0, 99, 1), SafeSweeps.ROOM);
        refused("save, a 41st pack", () -> fullStore(40, 20), x -> x.save(0, 99, 1), SafeSweeps.ROOM);
        refused("save, a 41st pack, power set", () -> armed(fullStore(40, 20)), x -> x.save(0, 99, 1), SafeSweeps.ROOM);
        refused("save, an 81st block, power set", () -> armed(fullStore(80, 1)), x -> x.save(0, 99, 1), SafeSweeps.ROOM);
        refused("save, an 81st block, size 0", () -> fullStore(80, 1), x -> x.save(0, 99, 0), SafeSweeps.OUTSIDE);
    }

    private static SafeSweeps downStore() {
        SafeSweeps x = armed(busyStore());
        x.drop(0);
        return x;
    }

    /** DOWN comes before all other refusals, and before what would be done. */
    private static void down() {
        Supplier<SafeSweeps> store = RefusalsTest::downStore;
        for (long t : new long[] {0, 6, 7, Long.MIN_VALUE, Long.MAX_VALUE}) {
            refused("DOWN: at(" + t + ")", store, x -> x.at(t), SafeSweeps.DOWN);
        }
        for (int n : new int[] {MIN, -2, -1, 0, 1, 4, 6, 50, 101, 501, MAX}) {
            refused("DOWN: begin(" + n + ")", store, x -> x.begin(n), SafeSweeps.DOWN);
            refused("DOWN: give(" + n + ")", store, x -> x.give(n), SafeSweeps.DOWN);
            refused("DOWN: drop(" + n + ")", store, x -> x.drop(n), SafeSweeps.DOWN);
            refused("DOWN: keeps(" + n + ")", store, x -> x.keeps(n), SafeSweeps.DOWN);
            refused("DOWN: step(" + n + ")", store, x -> x.step(n), SafeSweeps.DOWN);
            refused("DOWN: share(" + n + ")", store, x -> x.share(n), SafeSweeps.DOWN);
            refused("DOWN: cut(" + n + ")", store, x -> x.cut(n), SafeSweeps.DOWN);
            refused("DOWN: rule(" + n + ", 1)", store, x -> x.rule(n, 1), SafeSweeps.DOWN);
            refused("DOWN: rule(1, " + n + ")", store, x -> x.rule(1, n), SafeSweeps.DOWN);
            refused("DOWN: child(0, " + n + ")", store, x -> x.child(0, n), SafeSweeps.DOWN);
            refused("DOWN: child(" + n + ", 0)", store, x -> x.child(n, 0), SafeSweeps.DOWN);
            refused("DOWN: save(0, 1, " + n + ")", store, x -> x.save(0, 1, n), SafeSweeps.DOWN);
            refused("DOWN: save(" + n + ", 1, 0)", store, x -> x.save(n, 1, 0), SafeSweeps.DOWN);
            refused("DOWN: take(0, " + n + ")", store, x -> x.take(0, n), SafeSweeps.DOWN);
            refused("DOWN: take(" + n + ", 3)", store, x -> x.take(n, 3), SafeSweeps.DOWN);
            refused("DOWN: commit(0, " + n + ")", store, x -> x.commit(0, n), SafeSweeps.DOWN);
            refused("DOWN: commit(" + n + ", 9)", store, x -> x.commit(n, 9), SafeSweeps.DOWN);
        }
        refused("DOWN: prune(false)", store, x -> x.prune(false), SafeSweeps.DOWN);
        refused("DOWN: prune(true)", store, x -> x.prune(true), SafeSweeps.DOWN);
        refused("DOWN: sweep()", store, x -> x.sweep(), SafeSweeps.DOWN);
        followRefused(store, "DOWN: not told so: ");
    }

    /** What is told has no DOWN; UNKNOWN comes before OUTSIDE. */
    private static void told() {
        toldOf("up: ", RefusalsTest::busyStore);
        toldOf("DOWN: ", RefusalsTest::downStore);
    }

    private static void toldOf(String when, Supplier<SafeSweeps> store) {
        for (int what : new int[] {-1, 99, MIN, MAX}) {
            for (int number : new int[] {-1, 12, 80, MIN, MAX}) {
                refused(when + "block(" + number + ", " + what + ")", store, x -> x.block(number, what), SafeSweeps.UNKNOWN);
                refused(when + "pack(" + number + ", " + what + ")", store, x -> x.pack(number, what), SafeSweeps.UNKNOWN);
                refused(when + "snapshot(" + number + ", " + what + ")", store, x -> x.snapshot(number, what), SafeSweeps.UNKNOWN);
                refused(when + "saver(" + number + ", " + what + ")", store, x -> x.saver(number, what), SafeSweeps.UNKNOWN);
                refused(when + "mirrored(" + number + ", " + what + ")", store, x -> x.mirrored(number, what), SafeSweeps.UNKNOWN);
            }
            refused(when + "block(0, " + what + ")", store, x -> x.block(0, what), SafeSweeps.OUTSIDE);
            refused(when + "pack(0, " + what + ")", store, x -> x.pack(0, what), SafeSweeps.OUTSIDE);
            refused(when + "snapshot(0, " + what + ")", store, x -> x.snapshot(0, what), SafeSweeps.OUTSIDE);
            refused(when + "mirrored(0, " + what + ")", store, x -> x.mirrored(0, what), SafeSweeps.OUTSIDE);
            refused(when + "count(" + what + ")", store, x -> x.count(what), SafeSweeps.OUTSIDE);
            refused(when + "swept(" + what + ")", store, x -> x.swept(what), SafeSweeps.OUTSIDE);
            refused(when + "calendar(0, " + what + ")", store, x -> x.calendar(0, what), SafeSweeps.OUTSIDE);
        }
    }
}
