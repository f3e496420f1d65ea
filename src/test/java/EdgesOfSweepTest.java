/** Part 4, sentence by sentence: the sweep, its steps, and packing anew; promises 13 to 15 and 26. */
public final class EdgesOfSweepTest {
    private static final Due DUE = new Due();

    public static void main(String[] args) {
        numberedFromOne();
        oneAtATime();
        stepsAtTheirEdges();
        stepsUpToItsEnd();
        emptyStoreIsOverAtOnce();
        emptyRowClearsAtOnce();
        freedBlocksAreLookedAt();
        noBlockIsMarkedAsItBegins();
        rowOfSnapshotsThenSavers();
        rowHasBlocksTwice();
        rowWithoutThoseThatWent();
        endIsHowManyWereMade();
        markedOnceAndChildrenBehind();
        clearsFromZeroUp();
        choosesFromEndDown();
        choosesFreedAndMarkedNot();
        secondSweepFrees();
        sharedChildStays();
        takenWhileItMarks();
        takenWhileItClears();
        takenWhileItChooses();
        takenWhileItPacks();
        newBlocksAreNotChosen();
        packsThatThereWere();
        holesAboveNone();
        shareAtItsEdges();
        shareJustReached();
        shareAsItIsAtTheStep();
        shareOfAllHoles();
        movedAsNewOnes();
        movedInTheOrderOfPlaces();
        latestPackIsPackedAnew();
        latestOneIsGone();
        packedAnewTwiceInASweep();
        fortyPacksLeaveItAlone();
        fortiethPackMayCome();
        powerBeforeThePackIsGone();
        DUE.end();
    }

    private static void swept(SafeSweeps x, String when, int phase, int row, int end, int next) {
        DUE.is(when + ": swept(0)", x.swept(0), phase);
        DUE.is(when + ": swept(1)", x.swept(1), row);
        DUE.is(when + ": swept(2)", x.swept(2), end);
        DUE.is(when + ": swept(3)", x.swept(3), next);
    }

    private static void over(SafeSweeps x, String when) {
        swept(x, when, 0, SafeSweeps.NONE, SafeSweeps.NONE, SafeSweeps.NONE);
    }

    private static void lies(SafeSweeps x, String when, int block, int pack, int place) {
        DUE.is(when + ": block " + block + "'s pack", x.block(block, 2), pack);
        DUE.is(when + ": block " + block + "'s place", x.block(block, 3), place);
    }

    private static void packIs(SafeSweeps x, String when, int pack, int... due) {
        for (int what = 0; what < due.length; what++) {
            DUE.is(when + ": pack(" + pack + ", " + what + ")", x.pack(pack, what), due[what]);
        }
    }

    private static int sweepWhole(SafeSweeps x) {
        x.sweep();
        return x.step(500);
    }

    /** Blocks of a size each, all of saver 0; those whose size is told as less than 0 are let go. */
    private static SafeSweeps store(int capacity, int... sizes) {
        SafeSweeps x = new SafeSweeps(capacity);
        x.begin(1000);
        x.begin(1000);
        for (int i = 0; i < sizes.length; i++) {
            DUE.is("store", x.save(sizes[i] < 0 ? 1 : 0, i, Math.abs(sizes[i])), i);
        }
        x.give(1);
        return x;
    }

    /** The same, and what was let go is freed, with nothing packed anew. */
    private static SafeSweeps holed(int capacity, int... sizes) {
        SafeSweeps x = store(capacity, sizes);
        x.share(0);
        sweepWhole(x);
        sweepWhole(x);
        x.share(50);
        return x;
    }

    // "A SWEEP has a number, 1, 2, .."
    private static void numberedFromOne() {
        SafeSweeps x = store(20, 5);
        for (int i = 1; i <= 5; i++) {
            DUE.is("sweep", x.sweep(), i);
            DUE.is("begun", x.count(7), i);
            x.step(500);
        }
    }

    // sweep(): "STATE (one is under way)"
    private static void oneAtATime() {
        SafeSweeps x = store(20, 5, -5);
        x.sweep();
        int steps = 1 + 2 + 2 + 1;
        for (int i = 0; i < steps; i++) {
            DUE.is("under way, step " + i, x.sweep(), SafeSweeps.STATE);
            DUE.is("step " + i, x.step(1), 1);
        }
        DUE.is("over", x.sweep(), 2);
    }

    // step(): "OUTSIDE (n 1 .. 500), STATE (none is under way)"
    private static void stepsAtTheirEdges() {
        SafeSweeps x = store(20, 5);
        DUE.is("step(0), none under way", x.step(0), SafeSweeps.OUTSIDE);
        DUE.is("step(501), none under way", x.step(501), SafeSweeps.OUTSIDE);
        DUE.is("step(1), none under way", x.step(1), SafeSweeps.STATE);
        DUE.is("step(500), none under way", x.step(500), SafeSweeps.STATE);
        x.sweep();
        DUE.is("step(0)", x.step(0), SafeSweeps.OUTSIDE);
        DUE.is("step(501)", x.step(501), SafeSweeps.OUTSIDE);
        DUE.is("step(1)", x.step(1), 1);
        DUE.is("step(500)", x.step(500), 3);
        DUE.is("over", x.step(1), SafeSweeps.STATE);
    }

    // "Up to n steps of the sweep: how many were done (it may be over before)"
    private static void stepsUpToItsEnd() {
        int all = 2 + 2 + 2 + 1;
        for (int n = 1; n <= all + 2; n++) {
            SafeSweeps x = store(20, 5, 5);
            x.sweep();
            DUE.is("step(" + n + ")", x.step(n), Math.min(n, all));
            DUE.is("whether it is over", x.swept(0) == 0, n >= all);
            DUE.is("the next", x.step(500), n < all ? all - n : SafeSweeps.STATE);
        }
        SafeSweeps y = new SafeSweeps(1000);
        for (int i = 0; i < 10; i++) {
            y.begin(10);
            for (int j = 0; j < 8; j++) {
                y.save(0, 8 * i + j, 1);
            }
            y.commit(0, 0);
        }
        y.begin(10);
        y.sweep();
        for (int i = 0; i < 8; i++) {
            y.take(0, 72 + i);
        }
        DUE.is("a long sweep", y.step(248), 88 + 80 + 80);
        DUE.is("its last step", y.swept(0), 4);
        DUE.is("one", y.step(500), 1);
    }

    // the empty store: no row, no block, no pack
    private static void emptyStoreIsOverAtOnce() {
        SafeSweeps x = new SafeSweeps(20);
        over(x, "none at first");
        x.begin(10);
        DUE.is("a sweep with a saver that uses none", x.sweep(), 1);
        over(x, "over at once");
        DUE.is("it was counted", x.count(7), 1);
        DUE.is("it was written", x.count(8), 1);
        DUE.is("no step", x.step(1), SafeSweeps.STATE);
        DUE.is("the next one", x.sweep(), 2);
    }

    // "IT CLEARS, as soon as the row is empty"
    private static void emptyRowClearsAtOnce() {
        SafeSweeps x = store(20, -5, -5);
        x.sweep();
        swept(x, "no root, none in use", 2, 0, 2, 0);
        DUE.is("it takes", x.step(500), 2 + 2 + 1);
        SafeSweeps y = store(20, 5);
        y.sweep();
        swept(y, "one in the row", 1, 1, 1, SafeSweeps.NONE);
        y.step(1);
        swept(y, "as soon as that is off", 2, 0, 1, 0);
    }

    private static void freedBlocksAreLookedAt() {
        SafeSweeps x = store(20, -5, -5);
        sweepWhole(x);
        DUE.is("both are freed, their pack is gone", sweepWhole(x), 2 + 2 + 1);
        DUE.is("a sweep", x.sweep(), 3);
        swept(x, "it clears", 2, 0, 2, 0);
        DUE.is("freed ones and a pack that is gone are steps", x.step(500), 2 + 2 + 1);
        DUE.is("one write: the sweep's", x.count(8), 2 + 1 + 2 + 1 + 2 + 1 + 1);
    }

    // "As it begins: .. no block is MARKED"; block(): "whether it is MARKED by the sweep that is under way"
    private static void noBlockIsMarkedAsItBegins() {
        SafeSweeps x = store(20, 5, 5);
        x.sweep();
        x.step(2);
        DUE.is("both are marked", x.block(0, 5) + x.block(1, 5), 2);
        x.step(500);
        DUE.is("none is, without a sweep", x.block(0, 5) + x.block(1, 5), 0);
        x.sweep();
        DUE.is("none is, as it begins", x.block(0, 5) + x.block(1, 5), 0);
        x.step(1);
        DUE.is("the first", x.block(0, 5), 1);
        DUE.is("not the second", x.block(1, 5), 0);
    }

    /** The order in which blocks that are not marked yet are marked, as their numbers in a row. */
    private static String marks(SafeSweeps x, int blocks) {
        StringBuilder order = new StringBuilder();
        boolean[] seen = new boolean[blocks];
        for (int i = 0; i < blocks; i++) {
            seen[i] = x.block(i, 5) == 1;
        }
        while (x.swept(0) == 1) {
            x.step(1);
            for (int i = 0; i < blocks; i++) {
                if (!seen[i] && x.block(i, 5) == 1) {
                    seen[i] = true;
                    order.append(i).append(' ');
                }
            }
        }
        return order.toString();
    }

    // "its ROW has the roots of each snapshot that is there, by numbers, then what each saver uses, by numbers (all in their orders ..)"
    private static void rowOfSnapshotsThenSavers() {
        SafeSweeps x = store(20, 1, 1, 1, 1, 1, 1, 1, 1);
        x.give(0);
        int[][] roots = {{6, 2}, {4}};
        for (int[] row : roots) {
            x.begin(10);
            for (int block : row) {
                x.take(0, block);
            }
            x.commit(0, 0);
        }
        x.begin(10);
        x.begin(10);
        x.take(1, 7);
        x.take(1, 3);
        x.take(0, 5);
        x.take(0, 1);
        x.sweep();
        swept(x, "seven in the row", 1, 7, 8, SafeSweeps.NONE);
        DUE.same("marked in their orders", marks(x, 8), "6 2 4 5 1 7 3 ");
    }

    // "(.. blocks may stand there twice or more)"
    private static void rowHasBlocksTwice() {
        SafeSweeps x = store(20, 5, 5);
        x.commit(0, 0);
        for (int i = 0; i < 3; i++) {
            x.begin(10);
            x.take(i, 0);
            x.take(i, 1);
        }
        x.sweep();
        swept(x, "two blocks, four times", 1, 8, 2, SafeSweeps.NONE);
        DUE.is("a step each, though marked", x.step(7), 7);
        swept(x, "the last", 1, 1, 2, SafeSweeps.NONE);
        x.step(1);
        swept(x, "then it clears", 2, 0, 2, 0);
    }

    private static void rowWithoutThoseThatWent() {
        SafeSweeps x = store(20, 5, 5);
        x.commit(0, 0);
        x.begin(10);
        x.take(0, 1);
        x.commit(0, 0);
        x.begin(10);
        x.take(0, 0);
        x.give(0);
        x.drop(0);
        x.sweep();
        swept(x, "one root is left", 1, 1, 2, SafeSweeps.NONE);
        x.step(1);
        DUE.is("block 1", x.block(1, 5), 1);
        x.drop(1);
        x.step(500);
        DUE.is("what was dropped since stays marked", x.block(1, 4), 0);
        DUE.is("block 0 waits", x.block(0, 4), 1);
    }

    // "its END is how many blocks there are (made so far)"
    private static void endIsHowManyWereMade() {
        SafeSweeps x = store(20, -5, 5, -5);
        sweepWhole(x);
        sweepWhole(x);
        DUE.is("one is there", x.count(1), 1);
        x.sweep();
        DUE.is("three were made", x.swept(2), 3);
        x.save(0, 50, 5);
        DUE.is("END stays", x.swept(2), 3);
        x.step(1);
        DUE.is("END stays", x.swept(2), 3);
        DUE.is("clears 3, chooses 3, packs those that there are", x.step(500), 3 + 3 + x.count(4));
        x.sweep();
        DUE.is("four were made", x.swept(2), 4);
    }

    // "a step takes the first one off; if that is not marked, it is marked, and its children come behind the row, in order"
    private static void markedOnceAndChildrenBehind() {
        SafeSweeps x = new SafeSweeps(20);
        x.begin(10);
        for (int i = 0; i < 4; i++) {
            x.save(0, i, 1);
        }
        x.child(0, 2);
        x.child(0, 0);
        x.child(0, 2);
        x.child(0, 1);
        x.save(0, 4, 1);
        x.child(0, 4);
        x.save(0, 5, 1);
        x.give(0);
        x.begin(10);
        x.take(0, 5);
        x.take(0, 4);
        x.take(0, 3);
        x.sweep();
        swept(x, "5 4 3", 1, 3, 6, SafeSweeps.NONE);
        x.step(1);
        swept(x, "4 3 4", 1, 3, 6, SafeSweeps.NONE);
        DUE.is("5 is marked", x.block(5, 5), 1);
        x.step(1);
        swept(x, "3 4 2 0 2 1", 1, 6, 6, SafeSweeps.NONE);
        x.step(1);
        swept(x, "4 2 0 2 1", 1, 5, 6, SafeSweeps.NONE);
        x.step(1);
        swept(x, "4 is marked, its children come once", 1, 4, 6, SafeSweeps.NONE);
        DUE.same("then its children, in order", marks(x, 6), "2 0 1 ");
        swept(x, "it clears", 2, 0, 6, 0);
    }

    // "from block 0 up to END less 1, one a step .. others: nothing"
    private static void clearsFromZeroUp() {
        SafeSweeps x = store(20, 5, -5, -5);
        sweepWhole(x);
        x.sweep();
        x.step(1);
        int writes = x.count(8);
        for (int i = 0; i < 3; i++) {
            swept(x, "it clears " + i, 2, 0, 3, i);
            x.step(1);
            DUE.is("it wrote nothing", x.count(8), writes);
            DUE.is("two wait", x.count(2), 2);
        }
        swept(x, "it chooses", 3, 0, 3, 2);
    }

    // "IT CHOOSES, as soon as no block is left: from block END less 1 down to block 0, one a step"
    private static void choosesFromEndDown() {
        SafeSweeps x = store(20, -5, -5, -5);
        x.sweep();
        x.step(3);
        for (int i = 2; i >= 0; i--) {
            swept(x, "it chooses " + i, 3, 0, 3, i);
            DUE.is("not yet", x.block(i, 4), 0);
            x.step(1);
            DUE.is("it waits since this sweep", x.block(i, 4), 1);
            DUE.is("so many wait", x.count(2), 3 - i);
        }
        swept(x, "it packs", 4, 0, 3, 0);
    }

    // "one that is freed, or marked: nothing"
    private static void choosesFreedAndMarkedNot() {
        SafeSweeps x = holed(40, 5, -5, 5);
        x.sweep();
        x.step(2 + 3);
        int writes = x.count(8);
        DUE.is("three steps", x.step(3), 3);
        DUE.is("nothing was written", x.count(8), writes);
        DUE.is("the marked ones do not wait", x.count(2), 0);
        DUE.is("one is freed", x.count(10), 1);
        DUE.is("the freed one does not wait", x.block(1, 4), 0);
    }

    // "if it is WAITING (since an earlier sweep), it is FREED (W); if it does not wait, it is WAITING since this sweep (W)"
    private static void secondSweepFrees() {
        SafeSweeps x = store(40, 5, -5, 5);
        sweepWhole(x);
        DUE.is("it waits since sweep 1", x.block(1, 4), 1);
        x.give(0);
        x.sweep();
        x.step(3);
        x.step(1);
        DUE.is("2 waits since sweep 2", x.block(2, 4), 2);
        x.step(1);
        DUE.is("1 is freed", x.block(1, 0), 0);
        DUE.is("and waits no more", x.block(1, 4), 0);
        x.step(1);
        DUE.is("0 waits since sweep 2", x.block(0, 4), 2);
        x.step(500);
        DUE.is("one is freed", x.count(10), 1);
        DUE.is("two wait", x.count(2), 2);
        x.begin(10);
        DUE.is("revived", x.take(0, 2), 1);
        x.give(0);
        sweepWhole(x);
        DUE.is("it waits anew, since sweep 3", x.block(2, 4), 3);
        DUE.is("0 is freed", x.block(0, 0), 0);
        sweepWhole(x);
        DUE.is("all are freed", x.count(10), 3);
    }

    private static void sharedChildStays() {
        SafeSweeps x = new SafeSweeps(40);
        x.begin(10);
        x.save(0, 0, 1);
        x.child(0, 0);
        x.save(0, 1, 1);
        x.commit(0, 0);
        x.begin(10);
        x.take(0, 0);
        x.child(0, 0);
        x.save(0, 2, 1);
        x.commit(0, 0);
        x.drop(0);
        sweepWhole(x);
        sweepWhole(x);
        DUE.is("the parent that was let go is freed", x.block(1, 0), 0);
        DUE.is("the child stays", x.block(0, 0), 1);
        DUE.is("the other parent stays", x.block(2, 0), 1);
    }

    /** Blocks 0, 1 with child 0, 2 wait, 3 is in use by saver 0; a sweep, its second, has begun. */
    private static SafeSweeps waiting() {
        SafeSweeps x = new SafeSweeps(40);
        x.begin(10);
        x.save(0, 0, 10);
        x.child(0, 0);
        x.save(0, 1, 10);
        x.save(0, 2, 10);
        x.give(0);
        x.begin(10);
        x.save(0, 3, 10);
        sweepWhole(x);
        x.sweep();
        return x;
    }

    // "if a sweep marks, and it is not marked, it comes behind the sweep's row"
    private static void takenWhileItMarks() {
        SafeSweeps x = waiting();
        swept(x, "3 stands in the row", 1, 1, 4, SafeSweeps.NONE);
        x.take(0, 1);
        swept(x, "1 behind it", 1, 2, 4, SafeSweeps.NONE);
        DUE.is("1 is not marked yet", x.block(1, 5), 0);
        x.take(0, 3);
        swept(x, "3, not marked, comes again though it is used", 1, 3, 4, SafeSweeps.NONE);
        x.step(1);
        DUE.is("3 is marked", x.block(3, 5), 1);
        x.take(0, 3);
        swept(x, "3, marked, does not come", 1, 2, 4, SafeSweeps.NONE);
        x.save(0, 3, 10);
        swept(x, "found and marked, it does not come", 1, 2, 4, SafeSweeps.NONE);
        x.save(0, 2, 10);
        swept(x, "found and not marked, it comes", 1, 3, 4, SafeSweeps.NONE);
        DUE.is("1, 3, 2, and 0 behind them", x.step(4), 4);
        swept(x, "it clears", 2, 0, 4, 0);
        x.step(500);
        DUE.is("all stay", x.count(1), 4);
        DUE.is("none waits", x.count(2), 0);
    }

    // "if a sweep clears or chooses, all that it reaches is MARKED"
    private static void takenWhileItClears() {
        for (int steps = 0; steps < 4; steps++) {
            SafeSweeps x = waiting();
            x.step(1 + steps);
            DUE.is("it clears", x.swept(0), 2);
            DUE.is("take", x.take(0, 1), 2);
            DUE.is("it and its child are marked", x.block(1, 5) + x.block(0, 5), 2);
            DUE.is("2 is not", x.block(2, 5), 0);
            swept(x, "the row stays empty", 2, 0, 4, steps);
            x.step(500);
            DUE.is("2 alone is freed", x.count(10), 1);
            DUE.is("none waits", x.count(2), 0);
        }
    }

    private static void takenWhileItChooses() {
        for (int chosen = 0; chosen < 4; chosen++) {
            SafeSweeps x = waiting();
            x.step(1 + 4 + chosen);
            DUE.is("it chooses", x.swept(0), 3);
            boolean two = chosen < 2;
            boolean one = chosen < 3;
            DUE.is("whether 2 is there", x.block(2, 0) == 1, two);
            DUE.is("whether 1 is there", x.block(1, 0) == 1, one);
            DUE.is("take 2", x.take(0, 2), two ? 1 : SafeSweeps.UNKNOWN);
            DUE.is("take 1", x.take(0, 1), one ? 2 : SafeSweeps.UNKNOWN);
            DUE.is("take 0", x.take(0, 0), one ? 0 : 1);
            DUE.is("what is taken is marked", x.block(0, 5) + x.block(1, 5) + x.block(2, 5), 1 + (one ? 1 : 0) + (two ? 1 : 0));
            x.step(500);
            DUE.is("and stays", x.count(1), 2 + (one ? 1 : 0) + (two ? 1 : 0));
            DUE.is("none waits", x.count(2), 0);
        }
        SafeSweeps y = store(40, -5, -5);
        y.sweep();
        y.step(2 + 1);
        DUE.is("1 waits since this sweep", y.block(1, 4), 1);
        DUE.is("it is revived", y.take(0, 1), 1);
        y.step(500);
        DUE.is("and is not chosen again", y.block(1, 4), 0);
        DUE.is("0 waits", y.block(0, 4), 1);
    }

    private static void takenWhileItPacks() {
        SafeSweeps x = store(40, -5);
        x.sweep();
        x.step(2);
        swept(x, "it packs", 4, 0, 1, 0);
        DUE.is("it waits", x.block(0, 4), 1);
        DUE.is("it is revived", x.take(0, 0), 1);
        DUE.is("it is not marked", x.block(0, 5), 0);
        swept(x, "nothing comes into the row", 4, 0, 1, 0);
        DUE.is("the last step", x.step(500), 1);
        DUE.is("it stays", x.block(0, 0), 1);
        sweepWhole(x);
        DUE.is("in use, it does not wait", x.count(2), 0);
    }

    private static void newBlocksAreNotChosen() {
        SafeSweeps x = store(40, 5);
        x.sweep();
        x.save(0, 10, 5);
        swept(x, "new while it marks: not in the row", 1, 1, 1, SafeSweeps.NONE);
        x.step(1);
        x.save(0, 11, 5);
        swept(x, "new while it clears", 2, 0, 1, 0);
        x.step(1);
        x.save(0, 12, 5);
        swept(x, "new while it chooses", 3, 0, 1, 0);
        DUE.is("none of them is marked", x.block(1, 5) + x.block(2, 5) + x.block(3, 5), 0);
        x.give(0);
        x.step(500);
        DUE.is("none of them waits", x.count(2), 0);
        sweepWhole(x);
        DUE.is("the next sweep finds them", x.count(2), 4);
    }

    // "from pack 0 on up to the packs that there were as it began to pack, one a step"
    private static void packsThatThereWere() {
        SafeSweeps x = store(20, 20, 20, 20);
        x.sweep();
        x.step(3 + 3);
        x.save(0, 50, 20);
        x.step(3);
        swept(x, "it packs", 4, 0, 3, 0);
        x.save(0, 51, 20);
        DUE.is("five packs", x.count(4), 5);
        for (int i = 0; i < 4; i++) {
            swept(x, "pack " + i, 4, 0, 3, i);
            DUE.is("a step", x.step(1), 1);
        }
        over(x, "pack 4 came behind it");
        SafeSweeps y = holed(20, -10, 10, 15);
        y.sweep();
        DUE.is("two packs as it began to pack", y.step(500), 2 + 3 + 3 + 2);
        DUE.is("a third came by packing anew", y.count(4), 3);
    }

    // "HOLES are above 0"
    private static void holesAboveNone() {
        SafeSweeps x = store(20, 10, 5);
        x.share(1);
        sweepWhole(x);
        DUE.is("no holes", x.count(11), 0);
        SafeSweeps y = holed(1000, 99, -1);
        y.share(1);
        sweepWhole(y);
        DUE.is("one byte of a hundred, and 1 percent", y.count(11), 1);
        SafeSweeps z = holed(1000, 100, -1);
        z.share(1);
        sweepWhole(z);
        DUE.is("one byte of 101", z.count(11), 0);
    }

    // share(): "OUTSIDE (0 .. 100)"; "SHARE is 50 at first; with 0 nothing is packed anew"
    private static void shareAtItsEdges() {
        SafeSweeps x = new SafeSweeps(20);
        DUE.is("share(-1)", x.share(-1), SafeSweeps.OUTSIDE);
        DUE.is("share(101)", x.share(101), SafeSweeps.OUTSIDE);
        DUE.is("50 at first", x.share(0), 50);
        DUE.is("what it was", x.share(100), 0);
        DUE.is("what it was", x.share(99), 100);
        DUE.is("what it was", x.share(99), 99);
        SafeSweeps y = holed(20, -10, -10);
        y.share(0);
        sweepWhole(y);
        DUE.is("with 0 nothing, though all are holes", y.count(11), 0);
        y.share(1);
        sweepWhole(y);
        DUE.is("with 1", y.count(11), 1);
    }

    // "100 times HOLES are SHARE times ALL or more"
    private static void shareJustReached() {
        int[][] holesAllShare = {{10, 20, 50}, {1, 3, 33}, {2, 3, 66}, {1, 4, 25}, {3, 4, 75}, {7, 20, 35}, {1, 100, 1}, {99, 100, 99}};
        for (int[] one : holesAllShare) {
            for (int more = 0; more < 2; more++) {
                SafeSweeps x = holed(1000, one[1] - one[0], -one[0]);
                x.share(one[2] + more);
                sweepWhole(x);
                DUE.is(one[0] + " of " + one[1] + ", share " + (one[2] + more), x.count(11), 1 - more);
            }
        }
        SafeSweeps y = holed(20, 10, -10);
        sweepWhole(y);
        DUE.is("the first SHARE, just reached", y.count(11), 1);
        SafeSweeps z = holed(21, 11, -10);
        sweepWhole(z);
        DUE.is("a byte less than half", z.count(11), 0);
    }

    private static void shareAsItIsAtTheStep() {
        SafeSweeps x = holed(20, 10, -10);
        x.share(0);
        x.sweep();
        x.step(1 + 2 + 2);
        swept(x, "it packs", 4, 0, 2, 0);
        x.share(50);
        x.step(1);
        DUE.is("as it is now, not as it was", x.count(11), 1);
    }

    private static void shareOfAllHoles() {
        SafeSweeps x = holed(20, -10, -5);
        x.share(100);
        int writes = x.count(8);
        sweepWhole(x);
        DUE.is("all are holes", x.count(11), 1);
        packIs(x, "gone", 0, 0, 0, 0, 0);
        DUE.is("one write for it", x.count(8), writes + 1 + 1);
        DUE.is("no pack came", x.count(4), 1);
        SafeSweeps y = holed(20, 1, -19);
        y.share(100);
        sweepWhole(y);
        DUE.is("one byte is none", y.count(11), 0);
    }

    // "the blocks that are THERE in it go, in the order of their places, each as a new block would"
    private static void movedAsNewOnes() {
        SafeSweeps x = holed(20, -8, 4, 4, 4, 14, 3);
        lies(x, "before", 4, 1, 0);
        lies(x, "before", 5, 1, 14);
        x.share(40);
        sweepWhole(x);
        // in pack 1 are 3 bytes of room, fewer than any needs
        lies(x, "no room in the latest", 1, 2, 0);
        lies(x, "behind it", 2, 2, 4);
        lies(x, "behind it", 3, 2, 8);
        packIs(x, "the old one", 0, 0, 0, 0, 0);
        packIs(x, "the latest then", 2, 1, 12, 0, 3);
        SafeSweeps y = holed(20, -10, 2, 5, 3, 17);
        sweepWhole(y);
        lies(y, "it has room in the latest", 1, 1, 17);
        lies(y, "it has none", 2, 2, 0);
        lies(y, "behind it, not where it would have room", 3, 2, 5);
        SafeSweeps z = holed(20, -10, 3, 7, 17);
        sweepWhole(z);
        lies(z, "just as much room as it needs", 1, 1, 17);
        lies(z, "none is left", 2, 2, 0);
    }

    /** Places in another order than numbers come about by packing anew pack after pack. */
    private static void movedInTheOrderOfPlaces() {
        SafeSweeps x = holed(20, 3, -17, 2, -18, 1, -9);
        sweepWhole(x);
        lies(x, "first the one that was in the last pack", 4, 3, 0);
        lies(x, "then the one that had come there from the first", 0, 3, 1);
        lies(x, "then the one that had come there from the second", 2, 3, 4);
        packIs(x, "all in one", 3, 1, 6, 0, 3);
        x.save(0, 50, 4);
        x.begin(1000);
        x.save(1, 51, 10);
        x.give(1);
        sweepWhole(x);
        sweepWhole(x);
        int[] order = {4, 0, 2, 6};
        int[] places = {0, 1, 4, 6};
        for (int i = 0; i < order.length; i++) {
            lies(x, "in the order of their places, not of their numbers", order[i], 4, places[i]);
        }
    }

    // "(not into this pack: if it is the latest one, the first of them goes into a new pack)"
    private static void latestPackIsPackedAnew() {
        SafeSweeps x = holed(40, 3, -10, 4);
        sweepWhole(x);
        lies(x, "the first into a new one", 0, 1, 0);
        lies(x, "the second behind it", 2, 1, 3);
        packIs(x, "the old one", 0, 0, 0, 0, 0);
        packIs(x, "the new one", 1, 1, 7, 0, 2);
        lies(x, "the freed one as it lay last", 1, 0, 3);
        DUE.is("packed anew", x.count(11), 1);
        DUE.is("audit", x.audit(), 0);
    }

    private static void latestOneIsGone() {
        SafeSweeps x = holed(20, 10, -9, -20);
        x.share(100);
        sweepWhole(x);
        packIs(x, "the latest is gone", 1, 0, 0, 0, 0);
        x.share(40);
        sweepWhole(x);
        lies(x, "so the block goes into a new one", 0, 2, 0);
        packIs(x, "the first is gone, too", 0, 0, 0, 0, 0);
        DUE.is("three packs", x.count(4), 3);
        DUE.is("one is left", x.count(5), 1);
    }

    private static void packedAnewTwiceInASweep() {
        SafeSweeps x = holed(20, 5, -15, 5, -10);
        x.sweep();
        DUE.is("two packs were there", x.step(500), 2 + 4 + 4 + 2);
        DUE.is("both are packed anew", x.count(11), 2);
        lies(x, "the one that was in the second first", 2, 2, 0);
        lies(x, "the one that had come behind it", 0, 2, 5);
        packIs(x, "all in one", 2, 1, 10, 0, 2);
    }

    // "If there would be more than 40 packs, ever, nothing is done (no write)."
    private static void fortyPacksLeaveItAlone() {
        SafeSweeps x = new SafeSweeps(20);
        x.begin(1000);
        fillPacks(x, 39);
        x.save(0, 100, 10);
        x.save(1, 101, 10);
        x.give(1);
        x.share(0);
        sweepWhole(x);
        sweepWhole(x);
        packIs(x, "the 40th", 39, 1, 20, 10, 1);
        x.share(50);
        x.sweep();
        int writes = x.count(8);
        x.step(1 + 41 + 41);
        for (int i = 0; i < 39; i++) {
            DUE.is("a pack of holes goes", x.step(1), 1);
        }
        DUE.is("a write each", x.count(8), writes + 39);
        swept(x, "the 40th is next", 4, 0, 41, 39);
        DUE.is("a step for nothing", x.step(1), 1);
        over(x, "it is over");
        DUE.is("no write", x.count(8), writes + 39);
        packIs(x, "it stays as it is", 39, 1, 20, 10, 1);
        lies(x, "so does its block", 39, 39, 0);
        DUE.is("39 are packed anew", x.count(11), 39);
    }

    /** Full packs whose blocks are let go; saver 1 is new, saver 0 was there. */
    private static void fillPacks(SafeSweeps x, int packs) {
        for (int i = 0; i < packs; i++) {
            if (i % 8 == 0) {
                x.give(1);
                x.begin(1000);
            }
            x.save(1, i, 20);
        }
        x.give(1);
        x.begin(1000);
    }

    private static void fortiethPackMayCome() {
        SafeSweeps x = new SafeSweeps(20);
        x.begin(1000);
        fillPacks(x, 38);
        x.save(0, 100, 10);
        x.save(1, 101, 10);
        x.give(1);
        sweepWhole(x);
        sweepWhole(x);
        lies(x, "into the 40th", 38, 39, 0);
        DUE.is("40 packs", x.count(4), 40);
        packIs(x, "the 39th is gone", 38, 0, 0, 0, 0);
        SafeSweeps y = new SafeSweeps(20);
        y.begin(1000);
        fillPacks(y, 38);
        y.save(1, 101, 5);
        y.save(0, 100, 9);
        y.save(0, 102, 6);
        y.save(0, 103, 15);
        y.give(1);
        y.share(25);
        sweepWhole(y);
        sweepWhole(y);
        lies(y, "the 39th pack has room for none of its blocks in the 40th", 39, 38, 5);
        packIs(y, "so it stays", 38, 1, 20, 5, 2);
        DUE.is("40 packs", y.count(4), 40);
        DUE.is("audit", y.audit(), 0);
    }

    // "each is a write (W), and one more (W) with which the pack is gone ..; if power goes before that, all is as before"
    private static void powerBeforeThePackIsGone() {
        for (int n = 0; n <= 4; n++) {
            SafeSweeps x = holed(20, 6, -8, 2, 4, 15);
            x.share(40);
            x.sweep();
            x.step(4 + 5 + 5);
            swept(x, "it packs", 4, 0, 5, 0);
            int writes = x.count(8);
            x.cut(n);
            boolean lost = n < 4;
            DUE.is("cut " + n, x.step(1), lost ? SafeSweeps.LOST : 1);
            DUE.is("writes that were done", x.count(8), writes + n);
            lies(x, "cut " + n, 0, lost ? 0 : 2, 0);
            lies(x, "cut " + n, 2, lost ? 0 : 2, lost ? 14 : 6);
            lies(x, "cut " + n, 3, lost ? 0 : 2, lost ? 16 : 8);
            packIs(x, "cut " + n, 0, lost ? new int[] {1, 20, 8, 3} : new int[] {0, 0, 0, 0});
            packIs(x, "cut " + n, 1, 1, 15, 0, 1);
            DUE.is("packs made", x.count(4), lost ? 2 : 3);
            DUE.is("packed anew", x.count(11), lost ? 0 : 1);
            DUE.is("audit", x.audit(), 0);
            x.open();
            x.cut(SafeSweeps.NONE);
            x.save(x.begin(10), 99, 5);
            lies(x, "a new one", 5, lost ? 1 : 2, lost ? 15 : 12);
        }
    }
}
