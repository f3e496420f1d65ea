/** Part 1, sentence by sentence: NOW, numbers, writes, power; promises 2, 16 and 17. */
public final class EdgesOfPowerTest {
    private static final Due DUE = new Due();
    private static final long FIRST = -10000000000L;
    private static final long LAST = 1000000000000L;

    public static void main(String[] args) {
        nowAtFirst();
        nowIsNeverLess();
        nowAtMost();
        blockNumbersAreNotGivenAgain();
        packNumbersAreNotGivenAgain();
        snapshotNumbersAreNotGivenAgain();
        sweepNumbersAreNotGivenAgain();
        whatIsNoWrite();
        whatIsAWrite();
        stepsThatAreNoWrite();
        stepsThatAreWrites();
        cutAtItsEdges();
        cutCountsWritesAlone();
        cutAtTheFarthest();
        cutInsteadOfWhatWasSet();
        notDoneNorWhatComesBehind();
        downUntilOpen();
        saversAndSweepAreGone();
        nothingIsSetThen();
        allElseStays();
        openTellsHowManyWait();
        DUE.end();
    }

    private static SafeSweeps with(int capacity) {
        return new SafeSweeps(capacity);
    }

    private static void sweepWhole(SafeSweeps x) {
        x.sweep();
        x.step(500);
    }

    private static long nowOf(SafeSweeps x) {
        int saver = x.begin(1);
        x.save(saver, 0, 1);
        return x.time(x.commit(saver, 0));
    }

    // "NOW is in seconds, -10000000000 at first"
    private static void nowAtFirst() {
        DUE.is("NOW at first", nowOf(with(20)), FIRST);
        DUE.is("at, a second before the first", with(20).at(FIRST - 1), SafeSweeps.OUTSIDE);
        DUE.is("at, the first", with(20).at(FIRST), 1);
        DUE.is("at, a second behind the first", with(20).at(FIRST + 1), 1);
    }

    // "and never less than it was"; at(): "OUTSIDE (below NOW ..)"
    private static void nowIsNeverLess() {
        SafeSweeps x = with(20);
        DUE.is("at(100)", x.at(100), 1);
        DUE.is("at(99)", x.at(99), SafeSweeps.OUTSIDE);
        DUE.is("NOW stays 100", nowOf(x), 100);
        DUE.is("at(100) again", x.at(100), 1);
        DUE.is("at(101)", x.at(101), 1);
        DUE.is("at(100) is below now", x.at(100), SafeSweeps.OUTSIDE);
        DUE.is("NOW is 101", nowOf(x), 101);
        x.cut(0);
        x.drop(0);
        x.open();
        DUE.is("behind a loss of power, too", x.at(100), SafeSweeps.OUTSIDE);
        DUE.is("and the same still", x.at(101), 1);
    }

    // at(): "OUTSIDE (.. above 1000000000000)"
    private static void nowAtMost() {
        SafeSweeps x = with(20);
        DUE.is("at, above the last", x.at(LAST + 1), SafeSweeps.OUTSIDE);
        DUE.is("at, the last but one", x.at(LAST - 1), 1);
        DUE.is("at, the last", x.at(LAST), 1);
        DUE.is("at, the last again", x.at(LAST), 1);
        DUE.is("at, above the last again", x.at(LAST + 1), SafeSweeps.OUTSIDE);
        DUE.is("NOW is the last", nowOf(x), LAST);
        x.begin(1000000);
        DUE.is("a saver whose UNTIL is farther lives", x.saver(0, 0), 0);
    }

    // "Things are numbered 0, 1, .. of their kind as they are made; numbers are not given again."
    private static void blockNumbersAreNotGivenAgain() {
        SafeSweeps x = with(20);
        x.begin(10);
        DUE.is("the first block", x.save(0, 5, 1), 0);
        DUE.is("the second block", x.save(0, 6, 1), 1);
        x.give(0);
        sweepWhole(x);
        sweepWhole(x);
        DUE.is("both are freed", x.count(10), 2);
        x.begin(10);
        DUE.is("the third block has number 2", x.save(0, 5, 1), 2);
        x.cut(0);
        DUE.is("the fourth is not made", x.save(0, 7, 1), SafeSweeps.LOST);
        x.open();
        x.begin(10);
        DUE.is("so its number was not given yet", x.save(0, 8, 1), 3);
    }

    private static void packNumbersAreNotGivenAgain() {
        SafeSweeps x = with(20);
        for (int i = 0; i < 3; i++) {
            x.begin(10);
            x.save(0, i, 20);
            DUE.is("pack " + i, x.block(i, 2), i);
            x.give(0);
            sweepWhole(x);
            sweepWhole(x);
            DUE.is("it is gone", x.pack(i, 0), 0);
        }
        DUE.is("three packs were made", x.count(4), 3);
        DUE.is("none is left", x.count(5), 0);
    }

    private static void snapshotNumbersAreNotGivenAgain() {
        SafeSweeps x = with(20);
        for (int i = 0; i < 4; i++) {
            x.begin(10);
            x.save(0, 1, 1);
            DUE.is("snapshot " + i, x.commit(0, 0), i);
            DUE.is("it goes", x.drop(i), 1);
        }
        x.begin(10);
        x.take(0, 0);
        x.cut(0);
        DUE.is("one that is not made", x.commit(0, 0), SafeSweeps.LOST);
        x.open();
        x.begin(10);
        x.take(0, 0);
        DUE.is("its number was not given yet", x.commit(0, 0), 4);
    }

    // "A SWEEP has a number, 1, 2, .. (W: it is counted as it begins)"
    private static void sweepNumbersAreNotGivenAgain() {
        SafeSweeps x = with(20);
        x.begin(10);
        x.save(0, 1, 1);
        x.give(0);
        DUE.is("the first sweep", x.sweep(), 1);
        x.cut(0);
        DUE.is("power goes in it", x.step(500), SafeSweeps.LOST);
        x.open();
        DUE.is("it was counted", x.count(7), 1);
        x.cut(0);
        DUE.is("power goes as one begins", x.sweep(), SafeSweeps.LOST);
        DUE.is("it was not counted", x.count(7), 1);
        x.open();
        DUE.is("the second sweep", x.sweep(), 2);
        x.step(500);
        DUE.is("it waits since the second", x.block(0, 4), 2);
        DUE.is("the third sweep", x.sweep(), 3);
    }

    // "WRITES are told by (W)": all else is none, even if power is to go at the next one
    private static void whatIsNoWrite() {
        SafeSweeps x = with(20);
        x.begin(10);
        x.save(0, 1, 1);
        x.commit(0, 0);
        x.cut(0);
        DUE.is("at", x.at(0), 1);
        DUE.is("begin", x.begin(10), 0);
        DUE.is("take of one that does not wait", x.take(0, 0), 0);
        DUE.is("child", x.child(0, 0), 1);
        DUE.is("rule", x.rule(0, 1), 0);
        DUE.is("keeps", x.keeps(0), 1);
        DUE.is("prune, where all are kept", x.prune(false), 0);
        DUE.is("share", x.share(10), 50);
        DUE.is("follow", x.follow(0, 1), 1);
        DUE.is("give", x.give(0), 1);
        x.begin(10);
        DUE.is("save of one that is found", x.save(0, 1, 1), 0);
        DUE.is("audit", x.audit(), 0);
        DUE.is("two writes", x.count(8), 2);
        DUE.is("it is up", x.count(13), 0);
        DUE.is("a write", x.drop(0), SafeSweeps.LOST);
        DUE.is("open is none", x.open() + x.count(8), 2);
    }

    private static void wrote(SafeSweeps x, String what, int before, int due) {
        DUE.is(what + ": writes", x.count(8) - before, due);
    }

    private static void whatIsAWrite() {
        SafeSweeps x = with(20);
        x.begin(10);
        DUE.is("no writes at first", x.count(8), 0);
        x.save(0, 1, 1);
        wrote(x, "a new block", 0, 1);
        x.save(0, 2, 20);
        wrote(x, "a new block in a new pack", 1, 1);
        x.commit(0, 0);
        wrote(x, "a snapshot comes", 2, 1);
        x.drop(0);
        wrote(x, "a snapshot goes", 3, 1);
        x.sweep();
        wrote(x, "a sweep begins", 4, 1);
        x.step(500);
        wrote(x, "two wait", 5, 2);
        x.begin(10);
        x.take(0, 0);
        wrote(x, "one is revived", 7, 1);
        x.save(0, 2, 20);
        wrote(x, "one is found and revived", 8, 1);
        for (int i = 0; i < 3; i++) {
            x.commit(0, 0);
            x.begin(10);
            x.take(0, 0);
        }
        wrote(x, "three snapshots", 9, 3);
        x.prune(true);
        wrote(x, "three are pruned", 12, 3);
    }

    /** Blocks 0 (of saver 0), 1, 2 of ten bytes; 1 and 2 wait if a sweep was made. */
    private static SafeSweeps threeBlocks() {
        SafeSweeps x = with(20);
        x.begin(10);
        x.begin(10);
        x.save(0, 0, 10);
        x.save(1, 1, 10);
        x.save(1, 2, 10);
        x.give(1);
        return x;
    }

    private static void stepsThatAreNoWrite() {
        SafeSweeps x = threeBlocks();
        x.sweep();
        x.cut(0);
        DUE.is("a step that marks", x.step(1), 1);
        DUE.is("three that clear", x.step(3), 3);
        DUE.is("it chooses then", x.swept(0), 3);
        DUE.is("one that makes wait", x.step(1), SafeSweeps.LOST);
        SafeSweeps y = threeBlocks();
        y.take(0, 1);
        y.take(0, 2);
        y.sweep();
        y.cut(0);
        DUE.is("all are marked and passed over, and packs without holes", y.step(500), 3 + 3 + 3 + 2);
        SafeSweeps z = threeBlocks();
        z.share(0);
        sweepWhole(z);
        sweepWhole(z);
        z.sweep();
        z.cut(0);
        DUE.is("freed ones are passed over, and packs with SHARE 0", z.step(500), 1 + 3 + 3 + 2);
        z.share(51);
        z.cut(1); // the first is that of the sweep
        DUE.is("a sweep", z.sweep(), 4);
        DUE.is("a pack with fewer holes is passed over", z.step(1 + 3 + 3 + 1), 8);
        DUE.is("one that is all holes is not", z.step(1), SafeSweeps.LOST);
    }

    private static void stepsThatAreWrites() {
        SafeSweeps x = threeBlocks();
        x.sweep();
        x.step(1 + 3);
        int writes = x.count(8);
        x.step(1);
        wrote(x, "one waits", writes, 1);
        x.step(500);
        wrote(x, "two wait", writes, 2);
        x.sweep();
        x.step(1 + 3);
        wrote(x, "a sweep begins", writes, 3);
        x.step(1);
        wrote(x, "one is freed", writes, 4);
        x.step(2);
        wrote(x, "two are freed", writes, 5);
        x.step(1);
        wrote(x, "a block goes into another pack, and its pack is gone", writes, 7);
        x.step(1);
        wrote(x, "a pack of holes, into which it went, has 10 of 20", writes, 9);
        DUE.is("the sweep is over", x.swept(0), 0);
        x.give(0);
        sweepWhole(x);
        sweepWhole(x);
        wrote(x, "two sweeps, one waits, is freed, its pack is gone", writes + 9, 5);
    }

    private static SafeSweeps saver() {
        SafeSweeps x = with(20);
        x.begin(10);
        return x;
    }

    // cut(): "OUTSIDE (n -1 .. 500)"; "at the n-th write from now on (0 the next one)"
    private static void cutAtItsEdges() {
        DUE.is("cut(-2)", with(20).cut(-2), SafeSweeps.OUTSIDE);
        DUE.is("cut(-1)", with(20).cut(-1), 1);
        DUE.is("cut(0)", with(20).cut(0), 1);
        DUE.is("cut(500)", with(20).cut(500), 1);
        DUE.is("cut(501)", with(20).cut(501), SafeSweeps.OUTSIDE);
        for (int n = 0; n < 8; n++) {
            SafeSweeps x = saver();
            x.cut(n);
            for (int i = 0; i < n; i++) {
                DUE.is("cut " + n + ": write " + i, x.save(0, i, 1), i);
            }
            DUE.is("cut " + n + ": the write at which power goes", x.save(0, 100, 1), SafeSweeps.LOST);
            DUE.is("cut " + n + ": writes", x.count(8), n);
        }
        SafeSweeps y = saver();
        y.save(0, 1, 1);
        y.save(0, 2, 1);
        y.cut(1);
        DUE.is("from now on, not from the first write on", y.save(0, 3, 1), 2);
        DUE.is("the next but one", y.save(0, 4, 1), SafeSweeps.LOST);
    }

    private static void cutCountsWritesAlone() {
        SafeSweeps x = saver();
        x.save(0, 1, 1);
        x.cut(1);
        for (int i = 0; i < 5; i++) {
            DUE.is("found", x.save(0, 1, 1), 0);
            DUE.is("refused", x.save(0, 1, 0), SafeSweeps.OUTSIDE);
            DUE.is("taken", x.take(0, 0), 0);
            x.at(FIRST + i);
        }
        DUE.is("a write", x.save(0, 2, 1), 1);
        DUE.is("the next", x.commit(0, 0), SafeSweeps.LOST);
    }

    /** 500 writes are reached by a chain of 80 blocks that is let go and taken again. */
    private static void cutAtTheFarthest() {
        SafeSweeps x = with(1000);
        chain(x, 80);
        int writes = x.count(8);
        DUE.is("80 blocks", writes, 80);
        x.cut(500);
        int lost = 0;
        for (int i = 0; i < 4; i++) {
            lost += x.sweep() == SafeSweeps.LOST ? 1 : 0;
            lost += x.step(500) == SafeSweeps.LOST ? 1 : 0;
            x.begin(10);
            lost += x.take(0, 79) == SafeSweeps.LOST ? 1 : 0;
            x.give(0);
        }
        DUE.is("power went once", lost, 1);
        DUE.is("500 writes were done", x.count(8), writes + 500);
        SafeSweeps y = with(1000);
        chain(y, 80);
        y.cut(500);
        y.cut(-1);
        for (int i = 0; i < 4; i++) {
            sweepWhole(y);
            y.begin(10);
            DUE.is("with NONE it stays", y.take(0, 79), 80);
            y.give(0);
        }
    }

    /** Each block has the one before it as its child. */
    private static void chain(SafeSweeps x, int length) {
        for (int i = 0; i < length; i++) {
            if (i % 7 == 0) {
                x.give(0);
                x.begin(10);
                x.take(0, i - 1);
            }
            x.child(0, i - 1);
            DUE.is("chain", x.save(0, i, 1), i);
        }
        x.give(0);
    }

    // "instead of what was set before"
    private static void cutInsteadOfWhatWasSet() {
        SafeSweeps x = saver();
        x.cut(0);
        x.cut(1);
        DUE.is("later", x.save(0, 1, 1), 0);
        x.cut(5);
        x.cut(0);
        DUE.is("sooner", x.save(0, 2, 1), SafeSweeps.LOST);
        SafeSweeps y = saver();
        y.cut(0);
        y.cut(SafeSweeps.NONE);
        DUE.is("NONE: it stays", y.save(0, 1, 1), 0);
        y.cut(0);
        y.cut(501);
        DUE.is("a refused one is not set", y.save(0, 2, 1), SafeSweeps.LOST);
    }

    // "that one is not done, nor what would come behind it in the call"
    private static void notDoneNorWhatComesBehind() {
        SafeSweeps x = with(20);
        for (int i = 0; i < 4; i++) {
            x.begin(10);
            x.save(0, i, 1);
            x.commit(0, 0);
        }
        x.cut(1);
        DUE.is("prune", x.prune(true), SafeSweeps.LOST);
        DUE.is("one went", x.count(3), 3);
        DUE.is("its write is counted", x.count(8), 9);
        x.open();
        x.prune(true);
        sweepWhole(x);
        x.begin(10);
        for (int i = 0; i < 4; i++) {
            x.take(0, i);
            x.child(0, i);
        }
        x.save(0, 50, 1);
        x.give(0);
        sweepWhole(x);
        DUE.is("five wait", x.count(2), 5);
        x.begin(10);
        x.sweep();
        x.cut(2);
        DUE.is("take", x.take(0, 4), SafeSweeps.LOST);
        DUE.is("two are revived", x.count(2), 3);
        DUE.is("the least ones", x.block(0, 4) + x.block(1, 4), 0);
        DUE.is("nobody uses it", x.block(4, 6), 0);
        x.open();
        DUE.is("block 2, 3, 4 wait", x.block(2, 4) * x.block(3, 4) * x.block(4, 4), 8);
        x.sweep();
        x.cut(1);
        DUE.is("steps", x.step(500), SafeSweeps.LOST);
        DUE.is("one is freed", x.block(4, 0), 0);
        DUE.is("the next is not", x.block(3, 0), 1);
        DUE.is("none behind it was chosen", x.count(2), 2);
    }

    // "the house is DOWN until open()"; open(): "STATE when it is not DOWN"
    private static void downUntilOpen() {
        SafeSweeps x = saver();
        DUE.is("open when it is up", x.open(), SafeSweeps.STATE);
        x.cut(0);
        DUE.is("power is set, it is up", x.open(), SafeSweeps.STATE);
        DUE.is("LOST once", x.save(0, 1, 1), SafeSweeps.LOST);
        DUE.is("then DOWN", x.save(0, 1, 1), SafeSweeps.DOWN);
        DUE.is("DOWN, whatever is asked", x.at(5) + x.begin(1), 2 * SafeSweeps.DOWN);
        DUE.is("told", x.count(13), 1);
        DUE.is("open", x.open(), 0);
        DUE.is("told", x.count(13), 0);
        DUE.is("it is up", x.at(5), 1);
        DUE.is("open again", x.open(), SafeSweeps.STATE);
    }

    // "Then savers and a sweep that was under way are gone"
    private static void saversAndSweepAreGone() {
        SafeSweeps x = with(20);
        for (int i = 0; i < 4; i++) {
            x.begin(10);
            x.save(i, i, 1);
        }
        x.sweep();
        x.step(1);
        x.cut(0);
        DUE.is("LOST", x.save(0, 50, 1), SafeSweeps.LOST);
        for (int opened = 0; opened < 2; opened++) {
            for (int i = 0; i < 4; i++) {
                DUE.is("no saver " + i, x.saver(i, 0), SafeSweeps.UNKNOWN);
            }
            DUE.is("no savers", x.count(6), 0);
            DUE.is("none uses a block", x.block(0, 6), 0);
            DUE.is("no sweep", x.swept(0), 0);
            DUE.is("no row", x.swept(1), SafeSweeps.NONE);
            DUE.is("nothing is marked", x.block(0, 5), 0);
            x.open();
        }
        DUE.is("no step", x.step(1), SafeSweeps.STATE);
        DUE.is("a new saver", x.begin(10), 0);
        DUE.is("uses none", x.saver(0, 1), 0);
        DUE.is("a new sweep", x.sweep(), 2);
        DUE.is("its row has nothing of the old one", x.swept(1), 0);
    }

    // "nothing is set"
    private static void nothingIsSetThen() {
        SafeSweeps x = with(1000);
        chain(x, 20);
        x.cut(0);
        x.sweep();
        x.open();
        for (int i = 0; i < 3; i++) {
            sweepWhole(x);
            x.begin(10);
            DUE.is("power stays, round " + i, x.take(0, 19), 20);
            x.give(0);
        }
    }

    // "all else is as the writes that were done left it"
    private static void allElseStays() {
        SafeSweeps x = with(20);
        x.at(500);
        for (int kind = 0; kind < 6; kind++) {
            x.rule(kind, 10 + kind);
        }
        x.share(33);
        x.begin(10);
        x.save(0, 9, 7);
        x.save(0, 8, 7);
        x.commit(0, 2);
        x.follow(0, 2);
        x.follow(1, 3);
        x.cut(0);
        x.drop(0);
        x.open();
        DUE.is("the snapshot's tag", x.snapshot(0, 0), 2);
        DUE.is("its time", x.time(0), 500);
        DUE.is("the blocks", x.key(0) * 10 + x.key(1), 98);
        DUE.is("their places", x.block(1, 3), 7);
        DUE.is("the writes", x.count(8), 3);
        DUE.is("the history", x.count(12), 3);
        DUE.is("mirror 0", x.mirrored(0, 0), 2);
        DUE.is("mirror 1", x.mirrored(1, 0), 3);
        for (int kind = 0; kind < 6; kind++) {
            DUE.is("rule " + kind, x.rule(kind, 0), 10 + kind);
        }
        DUE.is("SHARE", x.share(0), 33);
        DUE.is("NOW", nowOf(x), 500);
    }

    // open(): "how many blocks are WAITING"
    private static void openTellsHowManyWait() {
        for (int n = 0; n <= 6; n++) {
            SafeSweeps x = with(20);
            x.begin(10);
            for (int i = 0; i < 6; i++) {
                x.save(0, i, 1);
            }
            x.give(0);
            x.sweep();
            x.cut(n);
            DUE.is("cut " + n, x.step(500), n < 6 ? SafeSweeps.LOST : 13);
            DUE.is("so many wait", x.count(2), n);
            if (n == 6) {
                x.sweep();
            }
            DUE.is("open tells it", x.open(), n);
        }
    }
}
