/** Promises 19 to 26: what is told, each number at its edges, also while the store is DOWN. */
public final class EdgesOfToldTest {
    private static final Due DUE = new Due();

    public static void main(String[] args) {
        countAtItsEdges();
        countsUpAndDown();
        blockAtItsEdges();
        blockThatIsFreed();
        keyAtItsEdges();
        packAtItsEdges();
        packThatIsGone();
        snapshotAtItsEdges();
        timeAtItsEdges();
        saverAtItsEdges();
        sweptAtItsEdges();
        sweptInEachPart();
        toldWhileDown();
        DUE.end();
    }

    private static void sweepWhole(SafeSweeps x) {
        x.sweep();
        x.step(500);
    }

    // count(): "What = 0 .. 13 .. OUTSIDE"
    private static void countAtItsEdges() {
        SafeSweeps x = new SafeSweeps(20);
        DUE.is("count(-1)", x.count(-1), SafeSweeps.OUTSIDE);
        for (int what = 0; what <= 13; what++) {
            DUE.is("count(" + what + ")", x.count(what), 0);
        }
        DUE.is("count(14)", x.count(14), SafeSweeps.OUTSIDE);
        DUE.is("count, the least", x.count(Integer.MIN_VALUE), SafeSweeps.OUTSIDE);
        DUE.is("count, the greatest", x.count(Integer.MAX_VALUE), SafeSweeps.OUTSIDE);
    }

    private static void counts(SafeSweeps x, String when, int... due) {
        for (int what = 0; what < due.length; what++) {
            DUE.is(when + ": count(" + what + ")", x.count(what), due[what]);
        }
    }

    private static void countsUpAndDown() {
        SafeSweeps x = new SafeSweeps(20);
        x.begin(10);
        x.begin(10);
        x.save(0, 0, 12);
        x.save(1, 1, 12);
        counts(x, "two blocks, two packs, two savers", 2, 2, 0, 0, 2, 2, 2, 0, 2, 0, 0, 0, 2, 0);
        x.commit(0, 0);
        counts(x, "a snapshot, one saver", 2, 2, 0, 1, 2, 2, 1, 0, 3, 0, 0, 0, 3, 0);
        x.give(1);
        sweepWhole(x);
        counts(x, "one waits", 2, 2, 1, 1, 2, 2, 0, 1, 5, 0, 0, 0, 3, 0);
        x.begin(10);
        x.take(0, 1);
        counts(x, "revived", 2, 2, 0, 1, 2, 2, 1, 1, 6, 1, 0, 0, 3, 0);
        x.give(0);
        sweepWhole(x);
        counts(x, "it waits again", 2, 2, 1, 1, 2, 2, 0, 2, 8, 1, 0, 0, 3, 0);
        sweepWhole(x);
        counts(x, "freed, its pack is gone", 2, 1, 0, 1, 2, 1, 0, 3, 11, 1, 1, 1, 4, 0);
        x.cut(0);
        x.drop(0);
        counts(x, "DOWN", 2, 1, 0, 1, 2, 1, 0, 3, 11, 1, 1, 1, 4, 1);
        x.open();
        x.drop(0);
        counts(x, "up again, the snapshot went", 2, 1, 0, 0, 2, 1, 0, 3, 12, 1, 1, 1, 5, 0);
        x.at(0);
        x.begin(5);
        x.at(6);
        DUE.is("a DEAD saver is counted", x.count(6), 1);
    }

    // block(): "Of a block (made): what = 0 .. 11 .. UNKNOWN, OUTSIDE"
    private static void blockAtItsEdges() {
        SafeSweeps x = new SafeSweeps(20);
        DUE.is("no block yet", x.block(0, 0), SafeSweeps.UNKNOWN);
        x.begin(10);
        x.save(0, 7, 3);
        x.child(0, 0);
        x.save(0, 8, 4);
        DUE.is("block(-1, 0)", x.block(-1, 0), SafeSweeps.UNKNOWN);
        DUE.is("block(2, 0)", x.block(2, 0), SafeSweeps.UNKNOWN);
        DUE.is("block(2, 12)", x.block(2, 12), SafeSweeps.UNKNOWN);
        DUE.is("block(1, -1)", x.block(1, -1), SafeSweeps.OUTSIDE);
        DUE.is("block(1, 12)", x.block(1, 12), SafeSweeps.OUTSIDE);
        int[] due = {1, 4, 0, 3, 0, 0, 1, 1, 0, SafeSweeps.NONE, SafeSweeps.NONE, SafeSweeps.NONE};
        for (int what = 0; what < due.length; what++) {
            DUE.is("block(1, " + what + ")", x.block(1, what), due[what]);
        }
    }

    // "(2, 3 of one that is freed: as it lay last.)"; "4 .. (0: it does not, or is freed)"
    private static void blockThatIsFreed() {
        SafeSweeps x = new SafeSweeps(20);
        x.begin(10);
        x.begin(10);
        x.save(0, 0, 10);
        x.save(1, 1, 7);
        x.save(1, 2, 8);
        x.give(1);
        x.share(0);
        sweepWhole(x);
        sweepWhole(x);
        int[] due = {0, 8, 1, 0, 0, 0, 0, 0, SafeSweeps.NONE, SafeSweeps.NONE, SafeSweeps.NONE, SafeSweeps.NONE, SafeSweeps.OUTSIDE};
        for (int what = 0; what < due.length; what++) {
            DUE.is("freed: block(2, " + what + ")", x.block(2, what), due[what]);
        }
        DUE.is("its place in pack 0", x.block(1, 3), 10);
        x.share(1);
        sweepWhole(x);
        DUE.is("both packs are gone", x.pack(0, 0) + x.pack(1, 0), 0);
        DUE.is("as it lay last: its pack", x.block(2, 2), 1);
        DUE.is("as it lay last: its place", x.block(1, 3), 10);
        DUE.is("the one that is there moved", x.block(0, 2), 2);
        SafeSweeps y = new SafeSweeps(20);
        y.begin(10);
        y.begin(10);
        y.save(0, 0, 10);
        y.save(1, 1, 10);
        y.save(1, 2, 5);
        y.commit(0, 0);
        y.give(1);
        y.begin(10);
        y.take(0, 2);
        sweepWhole(y);
        sweepWhole(y);
        DUE.is("0 went behind 2", y.block(0, 2) * 100 + y.block(0, 3), 105);
        y.drop(0);
        y.share(0);
        sweepWhole(y);
        sweepWhole(y);
        DUE.is("freed there, it lay there last", y.block(0, 2) * 100 + y.block(0, 3), 105);
    }

    // key(): "Its KEY; 0 if there is none such."
    private static void keyAtItsEdges() {
        SafeSweeps x = new SafeSweeps(20);
        DUE.is("no block yet", x.key(0), 0);
        x.begin(10);
        x.save(0, -5, 1);
        x.save(0, Long.MIN_VALUE, 1);
        DUE.is("key(0)", x.key(0), -5);
        DUE.is("key(1)", x.key(1), Long.MIN_VALUE);
        DUE.is("key(2)", x.key(2), 0);
        DUE.is("key(-1)", x.key(-1), 0);
        DUE.is("key(80)", x.key(80), 0);
        DUE.is("the least", x.key(Integer.MIN_VALUE), 0);
        DUE.is("the greatest", x.key(Integer.MAX_VALUE), 0);
    }

    // pack(): "Of a pack (made): what = 0 .. 3 .. UNKNOWN, OUTSIDE"
    private static void packAtItsEdges() {
        SafeSweeps x = new SafeSweeps(20);
        DUE.is("no pack yet", x.pack(0, 0), SafeSweeps.UNKNOWN);
        x.begin(10);
        x.save(0, 7, 13);
        x.save(0, 8, 7);
        x.save(0, 9, 1);
        DUE.is("pack(-1, 0)", x.pack(-1, 0), SafeSweeps.UNKNOWN);
        DUE.is("pack(2, 0)", x.pack(2, 0), SafeSweeps.UNKNOWN);
        DUE.is("pack(2, 4)", x.pack(2, 4), SafeSweeps.UNKNOWN);
        DUE.is("pack(1, -1)", x.pack(1, -1), SafeSweeps.OUTSIDE);
        DUE.is("pack(1, 4)", x.pack(1, 4), SafeSweeps.OUTSIDE);
        int[] full = {1, 20, 0, 2};
        int[] latest = {1, 1, 0, 1};
        for (int what = 0; what < 4; what++) {
            DUE.is("pack(0, " + what + ")", x.pack(0, what), full[what]);
            DUE.is("pack(1, " + what + ")", x.pack(1, what), latest[what]);
        }
    }

    // "(both 0 of one that is gone)"
    private static void packThatIsGone() {
        SafeSweeps x = new SafeSweeps(20);
        x.begin(10);
        x.save(0, 7, 13);
        x.give(0);
        sweepWhole(x);
        DUE.is("ALL", x.pack(0, 1), 13);
        DUE.is("HOLES", x.pack(0, 2), 0);
        x.sweep();
        x.step(2);
        DUE.is("ALL, the block is freed", x.pack(0, 1), 13);
        DUE.is("HOLES, the block is freed", x.pack(0, 2), 13);
        DUE.is("how many are there", x.pack(0, 3), 0);
        DUE.is("it is not gone yet", x.pack(0, 0), 1);
        x.step(1);
        for (int what = 0; what < 4; what++) {
            DUE.is("gone: pack(0, " + what + ")", x.pack(0, what), 0);
        }
        DUE.is("gone: pack(0, 4)", x.pack(0, 4), SafeSweeps.OUTSIDE);
    }

    // snapshot(): "Of a snapshot that is there: .. UNKNOWN, OUTSIDE (what; no such root)"
    private static void snapshotAtItsEdges() {
        SafeSweeps x = new SafeSweeps(20);
        DUE.is("none yet", x.snapshot(0, 0), SafeSweeps.UNKNOWN);
        x.begin(10);
        x.save(0, 0, 1);
        x.save(0, 1, 1);
        x.commit(0, 3);
        int[] due = {3, 2, 0, 1, SafeSweeps.OUTSIDE};
        for (int what = 0; what < due.length; what++) {
            DUE.is("snapshot(0, " + what + ")", x.snapshot(0, what), due[what]);
        }
        DUE.is("snapshot(0, -1)", x.snapshot(0, -1), SafeSweeps.OUTSIDE);
        DUE.is("snapshot(0, the least)", x.snapshot(0, Integer.MIN_VALUE), SafeSweeps.OUTSIDE);
        DUE.is("snapshot(0, the greatest)", x.snapshot(0, Integer.MAX_VALUE), SafeSweeps.OUTSIDE);
        DUE.is("snapshot(-1, 0)", x.snapshot(-1, 0), SafeSweeps.UNKNOWN);
        DUE.is("snapshot(1, 0)", x.snapshot(1, 0), SafeSweeps.UNKNOWN);
        DUE.is("snapshot(1, -1)", x.snapshot(1, -1), SafeSweeps.UNKNOWN);
        x.drop(0);
        DUE.is("one that went", x.snapshot(0, 0), SafeSweeps.UNKNOWN);
        DUE.is("one that went, what -1", x.snapshot(0, -1), SafeSweeps.UNKNOWN);
    }

    // time(): "Its TIME; 0 if there is none such."
    private static void timeAtItsEdges() {
        SafeSweeps x = new SafeSweeps(20);
        DUE.is("none yet", x.time(0), 0);
        x.begin(10);
        x.save(0, 0, 1);
        x.commit(0, 3);
        DUE.is("the first NOW", x.time(0), -10000000000L);
        x.at(1000000000000L);
        x.begin(10);
        x.save(0, 0, 1);
        x.commit(0, 3);
        DUE.is("the last NOW", x.time(1), 1000000000000L);
        DUE.is("time(-1)", x.time(-1), 0);
        DUE.is("time(2)", x.time(2), 0);
        DUE.is("the least", x.time(Integer.MIN_VALUE), 0);
        DUE.is("the greatest", x.time(Integer.MAX_VALUE), 0);
        x.drop(0);
        DUE.is("one that went", x.time(0), 0);
        DUE.is("the other", x.time(1), 1000000000000L);
    }

    // saver(): "3 + i the i-th block it uses. UNKNOWN, OUTSIDE (likewise)"
    private static void saverAtItsEdges() {
        SafeSweeps x = new SafeSweeps(20);
        DUE.is("none yet", x.saver(0, 0), SafeSweeps.UNKNOWN);
        x.begin(10);
        DUE.is("uses none: saver(0, 3)", x.saver(0, 3), SafeSweeps.OUTSIDE);
        DUE.is("uses none: saver(0, 2)", x.saver(0, 2), 0);
        for (int used = 1; used <= 8; used++) {
            x.save(0, used, 1);
            DUE.is("how many", x.saver(0, 1), used);
            DUE.is("the last of them", x.saver(0, 2 + used), used - 1);
            DUE.is("none behind it", x.saver(0, 3 + used), SafeSweeps.OUTSIDE);
        }
        DUE.is("saver(0, -1)", x.saver(0, -1), SafeSweeps.OUTSIDE);
        DUE.is("saver(0, the least)", x.saver(0, Integer.MIN_VALUE), SafeSweeps.OUTSIDE);
        DUE.is("saver(0, the greatest)", x.saver(0, Integer.MAX_VALUE), SafeSweeps.OUTSIDE);
        DUE.is("saver(-1, 0)", x.saver(-1, 0), SafeSweeps.UNKNOWN);
        DUE.is("saver(1, 0)", x.saver(1, 0), SafeSweeps.UNKNOWN);
        DUE.is("saver(1, -1)", x.saver(1, -1), SafeSweeps.UNKNOWN);
        DUE.is("saver(4, 0)", x.saver(4, 0), SafeSweeps.UNKNOWN);
        x.begin(10);
        x.begin(10);
        x.begin(10);
        DUE.is("saver(3, 0)", x.saver(3, 0), 0);
        DUE.is("saver(4, 0) still", x.saver(4, 0), SafeSweeps.UNKNOWN);
        DUE.is("a new one uses none", x.saver(3, 1), 0);
    }

    private static void swept(SafeSweeps x, String when, int... due) {
        for (int what = 0; what < due.length; what++) {
            DUE.is(when + ": swept(" + what + ")", x.swept(what), due[what]);
        }
        DUE.is(when + ": swept(-1)", x.swept(-1), SafeSweeps.OUTSIDE);
        DUE.is(when + ": swept(4)", x.swept(4), SafeSweeps.OUTSIDE);
    }

    // swept(): "NONE without one (but 0); OUTSIDE"
    private static void sweptAtItsEdges() {
        SafeSweeps x = new SafeSweeps(20);
        swept(x, "none under way", 0, SafeSweeps.NONE, SafeSweeps.NONE, SafeSweeps.NONE);
        DUE.is("the least", x.swept(Integer.MIN_VALUE), SafeSweeps.OUTSIDE);
        DUE.is("the greatest", x.swept(Integer.MAX_VALUE), SafeSweeps.OUTSIDE);
    }

    // "1 how many stand in the row (0 behind) .. 3 the block, or pack, that it looks at next (NONE when it marks)"
    private static void sweptInEachPart() {
        SafeSweeps x = new SafeSweeps(20);
        x.begin(10);
        x.save(0, 0, 15);
        x.save(0, 1, 15);
        x.sweep();
        swept(x, "it marks", 1, 2, 2, SafeSweeps.NONE);
        x.step(1);
        swept(x, "it marks", 1, 1, 2, SafeSweeps.NONE);
        x.step(1);
        swept(x, "it clears", 2, 0, 2, 0);
        x.step(1);
        swept(x, "it clears", 2, 0, 2, 1);
        x.step(1);
        swept(x, "it chooses", 3, 0, 2, 1);
        x.step(1);
        swept(x, "it chooses", 3, 0, 2, 0);
        x.step(1);
        swept(x, "it packs", 4, 0, 2, 0);
        x.step(1);
        swept(x, "it packs", 4, 0, 2, 1);
        x.step(1);
        swept(x, "it is over", 0, SafeSweeps.NONE, SafeSweeps.NONE, SafeSweeps.NONE);
    }

    // "what is told, while it is DOWN, too (savers and the sweep are gone then)"
    private static void toldWhileDown() {
        SafeSweeps x = new SafeSweeps(20);
        x.at(77);
        x.begin(10);
        x.save(0, 5, 4);
        x.commit(0, 1);
        x.begin(10);
        x.take(0, 0);
        x.child(0, 0);
        x.follow(1, 2);
        x.sweep();
        x.step(1);
        DUE.is("marked", x.block(0, 5), 1);
        x.cut(0);
        DUE.is("LOST", x.drop(0), SafeSweeps.LOST);
        counts(x, "DOWN", 1, 1, 0, 1, 1, 1, 0, 1, 3, 0, 0, 0, 2, 1);
        int[] block = {1, 4, 0, 0, 0, 0, 0, 0, SafeSweeps.NONE};
        for (int what = 0; what < block.length; what++) {
            DUE.is("DOWN: block(0, " + what + ")", x.block(0, what), block[what]);
        }
        DUE.is("DOWN: key", x.key(0), 5);
        DUE.is("DOWN: pack", x.pack(0, 1), 4);
        DUE.is("DOWN: snapshot", x.snapshot(0, 0), 1);
        DUE.is("DOWN: time", x.time(0), 77);
        DUE.is("DOWN: saver", x.saver(0, 0), SafeSweeps.UNKNOWN);
        swept(x, "DOWN", 0, SafeSweeps.NONE, SafeSweeps.NONE, SafeSweeps.NONE);
        DUE.is("DOWN: calendar", x.calendar(0, 0), 1970);
        DUE.is("DOWN: mirrored", x.mirrored(1, 2), 1);
        DUE.is("DOWN: has", x.has(1, 0), true);
        DUE.is("DOWN: audit", x.audit(), 0);
    }
}
