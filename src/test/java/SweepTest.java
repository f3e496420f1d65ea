/** Promises 13 to 15 and 26, with 20 and 22: sweep, step, share, swept, and what becomes of blocks and packs. */
public final class SweepTest {
    private static final Due DUE = new Due();

    public static void main(String[] args) {
        emptyStore();
        refusals();
        rowAndPhases();
        longestRow();
        secondSweepFrees();
        newBlocksDuringASweep();
        takesWhileItMarks();
        takesWhileItClearsAndChooses();
        deadSavers();
        holes();
        share();
        packsAnewInOrderOfPlaces();
        packsAnewManyInOrder();
        packsAnewTheLatest();
        packsAnewIntoTwo();
        packsRunOut();
        DUE.end();
    }

    private static void swept(SafeSweeps x, String when, int phase, int row, int end, int next) {
        DUE.is(when + ": swept(0)", x.swept(0), phase);
        DUE.is(when + ": swept(1)", x.swept(1), row);
        DUE.is(when + ": swept(2)", x.swept(2), end);
        DUE.is(when + ": swept(3)", x.swept(3), next);
    }

    private static void lies(SafeSweeps x, String when, int block, int pack, int place) {
        DUE.is(when + ": block " + block + "'s pack", x.block(block, 2), pack);
        DUE.is(when + ": block " + block + "'s place", x.block(block, 3), place);
    }

    private static void packIs(SafeSweeps x, String when, int pack, int... due) {
        for (int what = 0; what < due.length; what++) {
            DUE.is(when + ": pack(" + pack + ", " + what + ")", x.pack(pack, what), due[what]);
        }
    }

    private static void sweepWhole(SafeSweeps x) {
        DUE.is("a whole sweep", x.sweep() > 0, true);
        x.step(500);
        DUE.is("it is over", x.swept(0), 0);
    }

    private static void emptyStore() {
        SafeSweeps x = new SafeSweeps(20);
        DUE.is("empty: step", x.step(1), SafeSweeps.STATE);
        DUE.is("empty: sweep", x.sweep(), 1);
        swept(x, "empty: over at once", 0, -1, -1, -1);
        DUE.is("empty: a write", x.count(8), 1);
        DUE.is("empty: step", x.step(1), SafeSweeps.STATE);
        DUE.is("empty: sweep again", x.sweep(), 2);
        DUE.is("empty: two begun", x.count(7), 2);
    }

    private static void refusals() {
        SafeSweeps x = new SafeSweeps(20);
        DUE.is("step(0)", x.step(0), SafeSweeps.OUTSIDE);
        DUE.is("step(501)", x.step(501), SafeSweeps.OUTSIDE);
        DUE.is("step(-1)", x.step(-1), SafeSweeps.OUTSIDE);
        DUE.is("swept(4)", x.swept(4), SafeSweeps.OUTSIDE);
        DUE.is("swept(-1)", x.swept(-1), SafeSweeps.OUTSIDE);
        DUE.is("share(-1)", x.share(-1), SafeSweeps.OUTSIDE);
        DUE.is("share(101)", x.share(101), SafeSweeps.OUTSIDE);
        DUE.is("share(100)", x.share(100), 50);
        DUE.is("share(0)", x.share(0), 100);
        DUE.is("share(7)", x.share(7), 0);
        x.begin(5);
        x.save(0, 1, 1);
        DUE.is("sweep", x.sweep(), 1);
        DUE.is("sweep in a sweep", x.sweep(), SafeSweeps.STATE);
        DUE.is("swept(4) in a sweep", x.swept(4), SafeSweeps.OUTSIDE);
        DUE.is("step(501) in a sweep", x.step(501), SafeSweeps.OUTSIDE);
        DUE.is("step: up to its end", x.step(500), 4);
        DUE.is("step behind its end", x.step(1), SafeSweeps.STATE);
    }

    /** Blocks 0, 1, 2 with children 0 and 1, 3; a snapshot of 0, 1, 2 and one of 3; a saver with 1. */
    private static SafeSweeps some() {
        SafeSweeps x = new SafeSweeps(40);
        x.begin(10);
        x.save(0, 0, 10);
        x.save(0, 1, 10);
        x.child(0, 1);
        x.child(0, 0);
        x.save(0, 2, 10);
        x.commit(0, 0);
        x.begin(10);
        x.save(0, 3, 10);
        x.commit(0, 0);
        return x;
    }

    private static void rowAndPhases() {
        SafeSweeps x = some();
        x.begin(10);
        x.begin(10);
        x.take(1, 3);
        x.take(1, 0);
        x.take(0, 1);
        DUE.is("sweep", x.sweep(), 1);
        swept(x, "it marks", 1, 7, 4, -1);
        int[] marked = {0, 1, 2, 3};
        for (int i = 0; i < 4; i++) {
            DUE.is("not marked yet", x.block(marked[i], 5), 0);
            x.step(1);
            DUE.is("marked in the row's order", x.block(marked[i], 5), 1);
        }
        swept(x, "children came behind it", 1, 7 - 4 + 2, 4, -1);
        DUE.is("the saver's and the children", x.step(4), 4);
        swept(x, "the last one", 1, 1, 4, -1);
        DUE.is("a step", x.step(1), 1);
        swept(x, "it clears", 2, 0, 4, 0);
        DUE.is("three steps", x.step(3), 3);
        swept(x, "it clears the last", 2, 0, 4, 3);
        x.step(1);
        swept(x, "it chooses", 3, 0, 4, 3);
        x.step(3);
        swept(x, "it chooses the last", 3, 0, 4, 0);
        x.step(1);
        swept(x, "it packs", 4, 0, 4, 0);
        DUE.is("nothing was written", x.count(8), 7);
        DUE.is("the last step", x.step(9), 1);
        swept(x, "it is over", 0, -1, -1, -1);
        DUE.is("none is marked then", x.block(0, 5), 0);
        x.drop(0);
        x.drop(1);
        x.give(1);
        x.sweep();
        swept(x, "the next one", 1, 1, 4, -1);
        DUE.is("no block is marked as it begins", x.block(0, 5) + x.block(1, 5), 0);
    }

    /** Ten snapshots and four savers with eight blocks each, takes up to the last call, and four children a block. */
    private static void longestRow() {
        SafeSweeps x = new SafeSweeps(1000);
        int calls = 0;
        for (int i = 0; i < 10; i++) {
            x.begin(1000);
            x.save(0, 1000 + i, 1);
            for (int j = 0; j < 4 && i > 0; j++) {
                x.child(0, 8 * i);
            }
            for (int j = 1; j < 8; j++) {
                x.save(0, 10 * i + j, 1);
            }
            x.commit(0, 0);
            calls += i > 0 ? 14 : 10;
        }
        for (int i = 0; i < 4; i++) {
            x.begin(1000);
            for (int j = 0; j < 8; j++) {
                x.take(i, j);
            }
            calls += 9;
        }
        x.sweep();
        swept(x, "14 times 8", 1, 112, 80, -1);
        int takes = 470 - calls;
        for (int i = 0; i < takes; i++) {
            x.take(0, 7);
        }
        swept(x, "and the takes", 1, 112 + takes, 80, -1);
        int steps = 0;
        for (int i = 0; i < 9 && x.swept(0) == 1; i++) {
            steps += x.step(100);
        }
        DUE.is("marks, with 4 children of 9 blocks, and up to 99 clears", (steps - 1) / 100, (112 + takes + 4 * 9 - 1) / 100);
        DUE.is("all are marked", x.block(0, 5) + x.block(79, 5), 2);
    }

    private static void secondSweepFrees() {
        SafeSweeps x = some();
        x.drop(0);
        x.sweep();
        x.step(1 + 4);
        swept(x, "it chooses from the last one down", 3, 0, 4, 3);
        x.step(1);
        DUE.is("a marked one does not wait", x.block(3, 4), 0);
        x.step(1);
        DUE.is("the next one waits", x.block(2, 4), 1);
        DUE.is("the one below not yet", x.block(1, 4), 0);
        x.step(500);
        DUE.is("three wait", x.count(2), 3);
        DUE.is("all are there", x.count(1), 4);
        DUE.is("writes: 4 + 2 + drop + sweep + 3", x.count(8), 4 + 2 + 1 + 1 + 3);
        x.sweep();
        x.step(500);
        DUE.is("none waits", x.count(2), 0);
        DUE.is("three are freed", x.count(10), 3);
        DUE.is("one is there", x.count(1), 1);
        DUE.is("the freed one waits no more", x.block(2, 4), 0);
        DUE.is("the freed one is not there", x.block(2, 0), 0);
        DUE.is("its size is told", x.block(2, 1), 10);
        DUE.is("its children are told", x.block(2, 8) * 10 + x.block(2, 9), 10);
        sweepWhole(x);
        DUE.is("freed ones are passed over", x.count(10), 3);
    }

    /** Blocks 0, 1 with child 0, 2 wait; a saver uses block 3. */
    private static SafeSweeps waiting() {
        SafeSweeps x = new SafeSweeps(40);
        x.begin(10);
        x.save(0, 0, 10);
        x.child(0, 0);
        x.save(0, 1, 10);
        x.save(0, 2, 10);
        x.give(0);
        x.begin(10);
        x.save(0, 3, 10);
        sweepWhole(x);
        DUE.is("three wait", x.count(2), 3);
        x.sweep();
        return x;
    }

    private static void takesWhileItMarks() {
        SafeSweeps x = waiting();
        swept(x, "the saver's block", 1, 1, 4, -1);
        DUE.is("take", x.take(0, 1), 2);
        swept(x, "it comes behind the row", 1, 2, 4, -1);
        DUE.is("it is not marked yet", x.block(1, 5), 0);
        DUE.is("take again", x.take(0, 1), 0);
        swept(x, "and again, as it is not marked", 1, 3, 4, -1);
        x.step(2);
        swept(x, "its child came", 1, 2, 4, -1);
        x.take(0, 1);
        swept(x, "marked: not again", 1, 2, 4, -1);
        x.save(0, 3, 10);
        swept(x, "found and marked: not again", 1, 2, 4, -1);
        x.save(0, 0, 10);
        swept(x, "found and not marked: again", 1, 3, 4, -1);
        x.step(3);
        swept(x, "it clears", 2, 0, 4, 0);
        x.step(500);
        DUE.is("block 2 is freed", x.block(2, 0), 0);
        DUE.is("the others are there", x.count(1), 3);
        DUE.is("none waits", x.count(2), 0);
    }

    private static void takesWhileItClearsAndChooses() {
        for (int steps = 0; steps < 7; steps++) {
            SafeSweeps x = waiting();
            x.step(1);
            DUE.is("it clears", x.swept(0), 2);
            if (steps > 0) {
                x.step(steps);
            }
            boolean there = x.block(2, 0) == 1;
            DUE.is("take with its child", x.take(0, 1), 2);
            DUE.is("marked at once", x.block(1, 5), 1);
            DUE.is("what it reaches, too", x.block(0, 5), 1);
            DUE.is("another one is not", x.block(2, 5), 0);
            DUE.is("nothing stands in the row", x.swept(1), 0);
            DUE.is("take 2", x.take(0, 2), there ? 1 : SafeSweeps.UNKNOWN);
            DUE.is("it was freed at the sixth step", there, steps < 6);
            x.step(500);
            DUE.is("what was taken is there", x.count(1), there ? 4 : 3);
            DUE.is("and waits not", x.count(2), 0);
        }
        SafeSweeps y = new SafeSweeps(40);
        y.begin(10);
        y.save(0, 0, 1);
        y.give(0);
        y.begin(10);
        y.sweep();
        y.step(1);
        DUE.is("it chooses", y.swept(0), 3);
        y.step(1);
        DUE.is("it packs", y.swept(0), 4);
        DUE.is("it waits since this sweep", y.block(0, 4), 1);
        DUE.is("taken while it packs", y.take(0, 0), 1);
        DUE.is("it waits no more", y.block(0, 4), 0);
        DUE.is("it is not marked", y.block(0, 5), 0);
        DUE.is("nothing stands in the row", y.swept(1), 0);
    }

    private static void newBlocksDuringASweep() {
        SafeSweeps x = new SafeSweeps(40);
        x.begin(10);
        x.save(0, 0, 1);
        x.sweep();
        DUE.is("new while it marks", x.save(0, 1, 1), 1);
        swept(x, "it does not stand in the row", 1, 1, 1, -1);
        x.step(1);
        swept(x, "END stays", 2, 0, 1, 0);
        x.child(0, 1);
        DUE.is("new while it clears", x.save(0, 2, 1), 2);
        DUE.is("new ones are not marked", x.block(1, 5) + x.block(2, 5), 0);
        x.step(1);
        DUE.is("new while it chooses", x.save(0, 3, 1), 3);
        DUE.is("taken, a new one is marked", x.take(0, 2) + x.block(2, 5), 1);
        DUE.is("and its child", x.block(1, 5), 1);
        DUE.is("no other", x.block(3, 5), 0);
        x.step(1);
        DUE.is("new while it packs", x.save(0, 4, 1), 4);
        DUE.is("the sweep ends", x.step(500), 1);
        DUE.is("none waits", x.count(2), 0);
        x.give(0);
        x.sweep();
        DUE.is("the next END", x.swept(2), 5);
    }

    private static void deadSavers() {
        SafeSweeps x = new SafeSweeps(40);
        x.at(0);
        x.begin(5);
        x.begin(50);
        x.save(0, 0, 1);
        x.save(1, 1, 1);
        x.at(6);
        x.sweep();
        DUE.is("the dead one is gone", x.saver(0, 0), SafeSweeps.UNKNOWN);
        DUE.is("the other is not", x.saver(1, 0), 0);
        swept(x, "the row", 1, 1, 2, -1);
        x.at(1000);
        x.step(500);
        DUE.is("one that died since stays", x.saver(1, 0), 1);
        DUE.is("block 0 waits", x.block(0, 4), 1);
        DUE.is("block 1 does not", x.block(1, 4), 0);
        x.sweep();
        DUE.is("until the next sweep", x.count(6), 0);
        x.step(500);
        DUE.is("block 0 is freed", x.block(0, 0), 0);
        DUE.is("block 1 waits", x.block(1, 4), 2);
    }

    /** Pack 0 with blocks of ten bytes: 0 and 2 of a snapshot, and between them 1, which is freed. */
    private static SafeSweeps holed() {
        SafeSweeps x = new SafeSweeps(40);
        x.begin(10);
        x.begin(10);
        x.save(0, 0, 10);
        x.save(1, 1, 10);
        x.save(0, 2, 10);
        x.commit(0, 0);
        x.give(1);
        x.share(0);
        sweepWhole(x);
        sweepWhole(x);
        return x;
    }

    private static void holes() {
        SafeSweeps x = holed();
        DUE.is("freed", x.block(1, 0), 0);
        packIs(x, "a hole", 0, 1, 30, 10, 2);
        lies(x, "others stay", 2, 0, 20);
        lies(x, "as it lay last", 1, 0, 10);
        x.begin(10);
        x.save(0, 5, 10);
        lies(x, "a new one comes behind all", 3, 0, 30);
        x.save(0, 6, 1);
        lies(x, "holes are no room", 4, 1, 0);
        DUE.is("share 0: nothing is packed anew", x.count(11), 0);
    }

    private static void share() {
        SafeSweeps x = holed();
        x.share(34);
        int writes = x.count(8);
        sweepWhole(x);
        DUE.is("10 of 30 are less than 34 percent", x.count(11), 0);
        DUE.is("one write: the sweep", x.count(8), writes + 1);
        x.share(33);
        x.sweep();
        DUE.is("marks 2, clears 3, chooses 3, packs 1", x.step(500), 9);
        DUE.is("and not less than 33", x.count(11), 1);
        DUE.is("writes: the sweep, two blocks, the pack", x.count(8), writes + 1 + 4);
        packIs(x, "the old pack", 0, 0, 0, 0, 0);
        packIs(x, "the new pack", 1, 1, 20, 0, 2);
        lies(x, "packed anew", 0, 1, 0);
        lies(x, "packed anew", 2, 1, 10);
        lies(x, "the freed one, as it lay last", 1, 0, 10);
        DUE.is("packs made", x.count(4), 2);
        DUE.is("packs not gone", x.count(5), 1);
        DUE.is("moves are no history", x.count(12), 5);
        x.share(1);
        sweepWhole(x);
        DUE.is("no holes: nothing to do", x.count(11), 1);
        SafeSweeps y = holed();
        y.begin(10);
        y.save(0, 9, 10);
        y.commit(0, 0);
        y.drop(0);
        y.share(75);
        sweepWhole(y);
        DUE.is("10 of 40: no", y.count(11), 0);
        sweepWhole(y);
        DUE.is("30 of 40 are just 75 percent", y.count(11), 1);
        SafeSweeps z = holed();
        z.drop(0);
        z.share(100);
        sweepWhole(z);
        DUE.is("10 of 30: not all", z.count(11), 0);
        sweepWhole(z);
        DUE.is("all are holes", z.count(11), 1);
        DUE.is("no pack is left", z.count(5), 0);
        DUE.is("no pack was made", z.count(4), 1);
    }

    private static void packsAnewInOrderOfPlaces() {
        SafeSweeps x = new SafeSweeps(20);
        x.begin(10);
        x.begin(10);
        x.begin(10);
        x.save(0, 0, 10);
        x.save(1, 1, 10);
        x.save(0, 2, 5);
        x.save(2, 3, 5);
        x.give(1);
        sweepWhole(x);
        sweepWhole(x);
        packIs(x, "half are holes: gone", 0, 0, 0, 0, 0);
        packIs(x, "into the latest pack", 1, 1, 20, 0, 3);
        lies(x, "behind what lies there", 0, 1, 10);
        x.give(2);
        x.share(25);
        sweepWhole(x);
        sweepWhole(x);
        lies(x, "the first place first", 2, 2, 0);
        lies(x, "not the first number", 0, 2, 5);
        DUE.is("pack 2 is new", x.count(4), 3);
        DUE.is("audit", x.audit(), 0);
    }

    private static void packsAnewManyInOrder() {
        SafeSweeps x = new SafeSweeps(20);
        x.begin(10);
        x.begin(10);
        x.save(0, 0, 1);
        x.save(0, 1, 2);
        x.save(0, 2, 3);
        x.save(1, 3, 14);
        x.save(0, 4, 4);
        x.save(1, 5, 9);
        x.save(0, 6, 1);
        x.give(1);
        sweepWhole(x);
        sweepWhole(x);
        // pack 0's three come behind 4, 5, 6 in pack 1; then pack 1 itself has 9 holes of 20, too few
        lies(x, "behind the latest", 0, 1, 14);
        lies(x, "behind the latest", 1, 1, 15);
        lies(x, "behind the latest", 2, 1, 17);
        x.share(45);
        sweepWhole(x);
        int[] order = {4, 6, 0, 1, 2};
        int[] places = {0, 4, 5, 6, 8};
        for (int i = 0; i < order.length; i++) {
            lies(x, "by places, not by numbers", order[i], 2, places[i]);
        }
        packIs(x, "no holes are left", 2, 1, 11, 0, 5);
    }

    private static void packsAnewTheLatest() {
        SafeSweeps x = new SafeSweeps(100);
        x.begin(10);
        x.begin(10);
        x.save(0, 0, 10);
        x.save(1, 1, 30);
        x.save(0, 2, 10);
        x.give(1);
        sweepWhole(x);
        sweepWhole(x);
        lies(x, "never into itself", 0, 1, 0);
        lies(x, "the others behind it", 2, 1, 10);
        x.give(0);
        sweepWhole(x);
        sweepWhole(x);
        DUE.is("all packs are gone", x.count(5), 0);
        x.begin(10);
        x.save(0, 7, 1);
        lies(x, "the latest is gone: a new one", 3, 2, 0);
    }

    private static void packsAnewIntoTwo() {
        SafeSweeps x = new SafeSweeps(20);
        x.begin(10);
        x.begin(10);
        x.save(0, 0, 6);
        x.save(0, 1, 6);
        x.save(1, 2, 6);
        x.save(0, 3, 2);
        x.save(0, 4, 12);
        x.give(1);
        x.share(31);
        sweepWhole(x);
        sweepWhole(x);
        DUE.is("6 of 20 are less than 31 percent", x.count(11), 0);
        x.share(30);
        sweepWhole(x);
        lies(x, "what has room in the latest", 0, 1, 12);
        lies(x, "what has none", 1, 2, 0);
        lies(x, "that is the latest then", 3, 2, 6);
        packIs(x, "pack 0", 0, 0, 0, 0, 0);
        packIs(x, "pack 1", 1, 1, 18, 0, 2);
        packIs(x, "pack 2", 2, 1, 8, 0, 2);
    }

    private static void packsRunOut() {
        SafeSweeps x = new SafeSweeps(20);
        x.begin(10);
        for (int i = 0; i < 39; i++) {
            if (i % 8 == 0) {
                x.give(0);
                x.begin(10);
            }
            x.save(0, i, 20);
        }
        x.give(0);
        x.begin(10);
        x.begin(10);
        x.save(0, 100, 10);
        x.save(1, 101, 10);
        x.give(1);
        DUE.is("40 packs", x.count(4), 40);
        sweepWhole(x);
        int writes = x.count(8);
        sweepWhole(x);
        DUE.is("39 are gone, without a new one", x.count(11), 39);
        packIs(x, "the last had to go into a 41st", 39, 1, 20, 10, 1);
        lies(x, "it stays", 39, 39, 0);
        DUE.is("writes: the sweep, 40 freed, 39 packs", x.count(8), writes + 1 + 40 + 39);
        DUE.is("no room for a new one", x.save(0, 200, 1), SafeSweeps.ROOM);
        x.give(0);
        sweepWhole(x);
        sweepWhole(x);
        DUE.is("with no block there it goes", x.count(5), 0);
        DUE.is("40 packs, ever", x.count(4), 40);
    }
}
