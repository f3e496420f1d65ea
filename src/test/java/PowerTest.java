/** Promises 16 and 17, and LOST in each call that writes: cut, open. */
public final class PowerTest {
    private static final Due DUE = new Due();

    public static void main(String[] args) {
        cut();
        downRefuses();
        toldWhileDown();
        lostSave();
        lostTake();
        lostCommitAndDrop();
        lostSweepAndSteps();
        lostPacking();
        everyWrite();
        DUE.end();
    }

    private static void cut() {
        SafeSweeps x = new SafeSweeps(20);
        DUE.is("cut(-2)", x.cut(-2), SafeSweeps.OUTSIDE);
        DUE.is("cut(501)", x.cut(501), SafeSweeps.OUTSIDE);
        DUE.is("cut(0)", x.cut(0), 1);
        DUE.is("cut(501) again", x.cut(501), SafeSweeps.OUTSIDE);
        DUE.is("NONE: it stays", x.cut(SafeSweeps.NONE), 1);
        x.begin(10);
        DUE.is("save", x.save(0, 0, 1), 0);
        DUE.is("cut(500)", x.cut(500), 1);
        DUE.is("instead of it cut(2)", x.cut(2), 1);
        DUE.is("write 0", x.save(0, 1, 1), 1);
        DUE.is("no write", x.save(0, 1, 1), 1);
        DUE.is("write 1", x.save(0, 2, 1), 2);
        DUE.is("write 2", x.save(0, 3, 1), SafeSweeps.LOST);
        DUE.is("it was not done", x.count(8), 3);
        DUE.is("it is down", x.count(13), 1);
        DUE.is("open", x.open(), 0);
        DUE.is("it is up", x.count(13), 0);
        DUE.is("open again", x.open(), SafeSweeps.STATE);
        x.begin(10);
        DUE.is("nothing is set then", x.save(0, 3, 1), 3);
        DUE.is("the 500th", x.cut(500), 1);
    }

    private static SafeSweeps down() {
        SafeSweeps x = new SafeSweeps(20);
        x.at(5);
        x.rule(0, 3);
        x.share(70);
        x.begin(10);
        x.save(0, 7, 2);
        x.commit(0, 1);
        x.begin(10);
        x.take(0, 0);
        x.sweep();
        x.cut(0);
        DUE.is("lost", x.drop(0), SafeSweeps.LOST);
        return x;
    }

    private static void downRefuses() {
        SafeSweeps x = down();
        int[] answers = {x.at(6), x.at(0), x.begin(5), x.begin(0), x.child(0, 0), x.child(9, 9), x.save(0, 1, 1), x.save(9, 1, 0),
            x.take(0, 0), x.commit(0, 0), x.commit(0, 9), x.give(0), x.drop(0), x.drop(9), x.rule(0, 1), x.rule(9, 9), x.keeps(0),
            x.keeps(9), x.prune(true), x.prune(false), x.sweep(), x.step(1), x.step(0), x.share(1), x.share(-1), x.cut(1), x.cut(-9)};
        for (int i = 0; i < answers.length; i++) {
            DUE.is("down: answer " + i, answers[i], SafeSweeps.DOWN);
        }
        DUE.is("open", x.open(), 0);
        DUE.is("rules stay", x.rule(0, 3), 3);
        DUE.is("share stays", x.share(1), 70);
        DUE.is("NOW stays", x.at(4), SafeSweeps.OUTSIDE);
        DUE.is("NOW is what it was", x.at(5), 1);
        DUE.is("the snapshot stays", x.keeps(0), 1);
        DUE.is("no sweep is under way", x.step(1), SafeSweeps.STATE);
        DUE.is("savers are gone", x.begin(1), 0);
    }

    private static void toldWhileDown() {
        SafeSweeps x = down();
        int[] counts = {1, 1, 0, 1, 1, 1, 0, 1, 3, 0, 0, 0, 2, 1};
        for (int what = 0; what < counts.length; what++) {
            DUE.is("down: count(" + what + ")", x.count(what), counts[what]);
        }
        DUE.is("down: block", x.block(0, 1), 2);
        DUE.is("down: not marked", x.block(0, 5), 0);
        DUE.is("down: not used", x.block(0, 6), 0);
        DUE.is("down: key", x.key(0), 7);
        DUE.is("down: pack", x.pack(0, 1), 2);
        DUE.is("down: snapshot", x.snapshot(0, 0), 1);
        DUE.is("down: time", x.time(0), 5);
        DUE.is("down: saver", x.saver(0, 0), SafeSweeps.UNKNOWN);
        DUE.is("down: swept(0)", x.swept(0), 0);
        DUE.is("down: swept(2)", x.swept(2), SafeSweeps.NONE);
        DUE.is("down: calendar", x.calendar(0, 0), 1970);
        DUE.is("down: follow", x.follow(0, 1), 1);
        DUE.is("down: mirrored", x.mirrored(0, 1), 1);
        DUE.is("down: has", x.has(0, 0), true);
        DUE.is("down: audit", x.audit(), 0);
    }

    private static void lostSave() {
        SafeSweeps x = new SafeSweeps(20);
        x.begin(10);
        x.cut(0);
        DUE.is("save loses power", x.save(0, 1, 1), SafeSweeps.LOST);
        DUE.is("no block came", x.count(0), 0);
        DUE.is("no pack came", x.count(4), 0);
        DUE.is("no history", x.count(12), 0);
        x.open();
        x.begin(10);
        x.cut(0);
        DUE.is("a refused save does not", x.save(0, 1, 0), SafeSweeps.OUTSIDE);
        DUE.is("it is up", x.count(13), 0);
    }

    /** Blocks 0 and 1, 2 with children 1 and 0, wait. */
    private static SafeSweeps waiting() {
        SafeSweeps x = new SafeSweeps(20);
        x.begin(10);
        x.save(0, 0, 1);
        x.save(0, 1, 1);
        x.child(0, 1);
        x.child(0, 0);
        x.save(0, 2, 1);
        x.give(0);
        x.sweep();
        x.step(500);
        x.begin(10);
        return x;
    }

    private static void lostTake() {
        for (int n = 0; n < 4; n++) {
            SafeSweeps x = waiting();
            x.cut(n);
            DUE.is("take, cut " + n, x.take(0, 2), n < 3 ? SafeSweeps.LOST : 3);
            DUE.is("revived, cut " + n, x.count(9), n);
            DUE.is("writes, cut " + n, x.count(8), 3 + 4 + n);
            for (int block = 0; block < 3; block++) {
                DUE.is("from the least number on, cut " + n, x.block(block, 4), block < n ? 0 : 1);
            }
            DUE.is("open, cut " + n, x.open(), n < 3 ? 3 - n : SafeSweeps.STATE);
            DUE.is("who used it, cut " + n, x.block(2, 6), n < 3 ? 0 : 1);
        }
        SafeSweeps y = waiting();
        y.cut(1);
        y.take(0, 0);
        y.take(0, 1);
        DUE.is("down at the second", y.count(13), 1);
        SafeSweeps z = waiting();
        z.cut(0);
        DUE.is("a save that finds loses power, too", z.save(0, 1, 1), SafeSweeps.LOST);
        DUE.is("it waits still", z.open(), 3);
    }

    private static void lostCommitAndDrop() {
        SafeSweeps x = new SafeSweeps(20);
        x.begin(10);
        x.save(0, 0, 1);
        x.cut(0);
        DUE.is("commit loses power", x.commit(0, 0), SafeSweeps.LOST);
        DUE.is("no snapshot came", x.count(3), 0);
        x.open();
        x.begin(10);
        x.take(0, 0);
        DUE.is("its number was not given", x.commit(0, 0), 0);
        x.cut(0);
        DUE.is("drop of none", x.drop(1), SafeSweeps.UNKNOWN);
        DUE.is("drop loses power", x.drop(0), SafeSweeps.LOST);
        DUE.is("it stays", x.count(3), 1);
        DUE.is("history", x.count(12), 2);
    }

    private static void lostSweepAndSteps() {
        SafeSweeps x = waiting();
        x.cut(0);
        DUE.is("sweep loses power", x.sweep(), SafeSweeps.LOST);
        DUE.is("it is not counted", x.count(7), 1);
        DUE.is("none is under way", x.swept(0), 0);
        x.open();
        DUE.is("sweep", x.sweep(), 2);
        x.cut(1);
        DUE.is("step loses power", x.step(500), SafeSweeps.LOST);
        DUE.is("one is freed, from the last one down", x.block(2, 0), 0);
        DUE.is("the next is not", x.block(1, 0), 1);
        DUE.is("it waits since sweep 1", x.block(1, 4), 1);
        DUE.is("the sweep is gone", x.swept(0), 0);
        DUE.is("open: two wait", x.open(), 2);
        DUE.is("its number is not given again", x.sweep(), 3);
        x.step(500);
        DUE.is("all are freed", x.count(10), 3);
        DUE.is("audit", x.audit(), 0);
    }

    private static void lostPacking() {
        for (int n = 0; n < 6; n++) {
            SafeSweeps x = new SafeSweeps(20);
            x.begin(10);
            x.begin(10);
            x.save(0, 0, 6);
            x.save(1, 1, 8);
            x.save(0, 2, 6);
            x.commit(0, 0);
            x.give(1);
            x.share(40);
            x.sweep();
            x.step(500);
            x.sweep();
            int writes = x.count(8);
            x.cut(n);
            boolean lost = n < 4;
            DUE.is("packing, cut " + n, x.step(500), lost ? SafeSweeps.LOST : 9);
            DUE.is("freed first, cut " + n, x.count(10), n < 1 ? 0 : 1);
            DUE.is("writes, cut " + n, x.count(8), writes + Math.min(n, 4));
            DUE.is("packs made, cut " + n, x.count(4), lost ? 1 : 2);
            DUE.is("packs not gone, cut " + n, x.count(5), 1);
            DUE.is("packed anew, cut " + n, x.count(11), lost ? 0 : 1);
            DUE.is("the first block's pack, cut " + n, x.block(0, 2), lost ? 0 : 1);
            DUE.is("the third block's place, cut " + n, x.block(2, 3), lost ? 14 : 6);
            DUE.is("ALL, cut " + n, x.pack(0, 1), lost ? 20 : 0);
            DUE.is("HOLES, cut " + n, x.pack(0, 2), n < 1 || !lost ? 0 : 8);
            DUE.is("audit, cut " + n, x.audit(), 0);
            DUE.is("open, cut " + n, x.open(), n < 1 ? 1 : lost ? 0 : SafeSweeps.STATE);
        }
    }

    // 12 blocks, a snapshot, a sweep, 6 wait, 1 revived, a sweep, 5 freed, 2 moved out of a pack, that gone, a snapshot, a drop
    private static final int LONG_RUN_WRITES = 32;

    /** Wherever power goes in a long run, just so many writes are done, and the store can be opened and swept clean. */
    private static void everyWrite() {
        SafeSweeps whole = new SafeSweeps(20);
        longRun(whole);
        DUE.is("writes of the whole run", whole.count(8), LONG_RUN_WRITES);
        for (int n = 0; n <= LONG_RUN_WRITES; n++) {
            SafeSweeps x = new SafeSweeps(20);
            x.cut(n);
            longRun(x);
            DUE.is("cut " + n + ": writes", x.count(8), n);
            DUE.is("cut " + n + ": down", x.count(13), n < LONG_RUN_WRITES ? 1 : 0);
            DUE.is("cut " + n + ": audit", x.audit(), 0);
            x.open();
            x.cut(-1);
            x.give(0);
            x.prune(true);
            for (int i = 0; i < 2; i++) {
                x.sweep();
                x.step(500);
            }
            DUE.is("cut " + n + ": nothing is left", x.count(1), 0);
            DUE.is("cut " + n + ": no pack is left", x.count(5), 0);
            DUE.is("cut " + n + ": audit at the end", x.audit(), 0);
            DUE.is("cut " + n + ": the mirror follows", x.follow(1, 500), 0);
            DUE.is("cut " + n + ": and has nothing", x.mirrored(1, 1) + x.mirrored(1, 2), 0);
        }
    }

    private static void longRun(SafeSweeps x) {
        x.begin(10);
        x.begin(10);
        for (int i = 0; i < 6; i++) {
            x.save(0, i, 4);
            x.save(1, 10 + i, 3);
            x.child(0, 2 * i);
        }
        x.commit(0, 0);
        x.give(1);
        x.sweep();
        x.step(500);
        x.begin(10);
        x.take(0, 1);
        x.sweep();
        x.step(500);
        x.commit(0, 1);
        x.drop(0);
    }
}
