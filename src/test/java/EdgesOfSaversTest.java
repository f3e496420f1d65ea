import java.util.function.Consumer;

/** Part 3, sentence by sentence: savers, leases, saving, taking, commit; promises 3 to 8. */
public final class EdgesOfSaversTest {
    private static final Due DUE = new Due();

    public static void main(String[] args) {
        leaseNumbersAtTheirEdges();
        leastFreeNumber();
        deadOnesHoldTheirNumbers();
        untilAsItBegins();
        whatRenewsALease();
        refusedCallsThatRenew();
        callsThatDoNotRenew();
        noLifeForTheDead();
        deadAboveUntil();
        goneWhenASweepBegins();
        eightBlocksAtMost();
        eachOnceInOrder();
        fourChildrenAtMost();
        childrenMustBeUsed();
        rowIsEmptyThen();
        rowStaysIfRefused();
        foundIsJustTheSame();
        foundIsThere();
        foundWaits();
        newOneIsUsed();
        revivedFromTheLeastOn();
        revivedOnlyIfWaiting();
        committedWithAll();
        committedSaverIsGone();
        giveTellsHowMany();
        DUE.end();
    }

    private static SafeSweeps started(int lease) {
        SafeSweeps x = new SafeSweeps(20);
        x.at(0);
        x.begin(lease);
        return x;
    }

    private static void sweepWhole(SafeSweeps x) {
        x.sweep();
        x.step(500);
    }

    // begin(): "OUTSIDE (lease 1 .. 1000000)"
    private static void leaseNumbersAtTheirEdges() {
        DUE.is("lease 0", new SafeSweeps(20).begin(0), SafeSweeps.OUTSIDE);
        DUE.is("lease 1", new SafeSweeps(20).begin(1), 0);
        DUE.is("lease 1000000", new SafeSweeps(20).begin(1000000), 0);
        DUE.is("lease 1000001", new SafeSweeps(20).begin(1000001), SafeSweeps.OUTSIDE);
        for (int lease : new int[] {1, 1000000}) {
            SafeSweeps x = started(lease);
            x.at(lease);
            DUE.is("at UNTIL it lives", x.saver(0, 0), 0);
            x.at(lease + 1);
            DUE.is("above UNTIL it is DEAD", x.saver(0, 0), 1);
        }
    }

    // "numbers 0 .. 3; one that begins has the least number that is free"
    private static void leastFreeNumber() {
        for (int first = 0; first < 4; first++) {
            for (int second = 0; second < 4; second++) {
                SafeSweeps x = new SafeSweeps(20);
                for (int i = 0; i < 4; i++) {
                    DUE.is("begin " + i, x.begin(10), i);
                }
                DUE.is("a fifth", x.begin(10), SafeSweeps.ROOM);
                x.give(first);
                x.give(second);
                DUE.is("the least that is free", x.begin(10), Math.min(first, second));
                DUE.is("the next", x.begin(10), first == second ? SafeSweeps.ROOM : Math.max(first, second));
            }
        }
        SafeSweeps y = new SafeSweeps(20);
        DUE.is("no saver 4", y.saver(4, 0), SafeSweeps.UNKNOWN);
        DUE.is("no saver -1", y.saver(-1, 0), SafeSweeps.UNKNOWN);
    }

    private static void deadOnesHoldTheirNumbers() {
        SafeSweeps x = new SafeSweeps(20);
        for (int i = 0; i < 4; i++) {
            x.begin(5);
        }
        x.at(0);
        DUE.is("all four are DEAD", x.saver(0, 0) + x.saver(1, 0) + x.saver(2, 0) + x.saver(3, 0), 4);
        DUE.is("a fifth", x.begin(5), SafeSweeps.ROOM);
        x.give(2);
        DUE.is("one gave up", x.begin(5), 2);
        x.sweep();
        DUE.is("the others are gone then", x.begin(5), 0);
        DUE.is("0 and 2 are there", x.count(6), 2);
    }

    // "UNTIL is NOW and that, as it begins"
    private static void untilAsItBegins() {
        SafeSweeps x = new SafeSweeps(20);
        x.at(1000);
        x.begin(10);
        x.at(1010);
        x.begin(10);
        DUE.is("UNTIL 1010: it lives", x.saver(0, 0), 0);
        x.at(1011);
        DUE.is("it is DEAD", x.saver(0, 0), 1);
        x.at(1020);
        DUE.is("UNTIL 1020: it lives", x.saver(1, 0), 0);
        x.at(1021);
        DUE.is("it is DEAD, too", x.saver(1, 0), 1);
        x.give(0);
        x.begin(3);
        DUE.is("a new one has a lease of its own", x.saver(0, 0), 0);
        x.at(1024);
        DUE.is("UNTIL 1024", x.saver(0, 0), 0);
        x.at(1025);
        DUE.is("no longer", x.saver(0, 0), 1);
    }

    /** A saver with a lease of 10 since second 0 that uses the blocks 1 to 8, and has a full row; block 0 is not its own. */
    private static SafeSweeps leased() {
        SafeSweeps x = new SafeSweeps(1000);
        x.begin(1000000);
        x.begin(1000000);
        x.save(1, 100, 1);
        for (int i = 0; i < 8; i++) {
            x.save(0, i, 1);
        }
        x.commit(1, 0);
        x.commit(0, 0);
        x.at(0);
        x.begin(10);
        for (int i = 1; i < 9; i++) {
            x.take(0, i);
        }
        for (int i = 0; i < 4; i++) {
            x.child(0, 1);
        }
        return x;
    }

    private static void renews(String label, Consumer<SafeSweeps> call, boolean does) {
        SafeSweeps x = leased();
        x.at(10);
        call.accept(x);
        x.at(20);
        DUE.is(label + ": alive at 20", x.saver(0, 0), does ? 0 : 1);
        x.at(21);
        DUE.is(label + ": alive at 21", x.saver(0, 0), 1);
    }

    // "and at each child(), save(), take() that names it and finds it alive"
    private static void whatRenewsALease() {
        renews("take of one that it uses", x -> x.take(0, 1), true);
        SafeSweeps x = started(10);
        x.at(10);
        DUE.is("save of a new one, at UNTIL", x.save(0, 1, 1), 0);
        x.at(20);
        DUE.is("child, at UNTIL", x.child(0, 0), 1);
        x.at(30);
        DUE.is("take, at UNTIL", x.take(0, 0), 0);
        x.at(40);
        DUE.is("save of one that is found, at UNTIL", x.save(0, 1, 1), 1);
        x.at(50);
        DUE.is("it lives", x.saver(0, 0), 0);
        x.at(51);
        DUE.is("and no longer", x.saver(0, 0), 1);
        SafeSweeps y = started(10);
        y.at(3);
        y.save(0, 1, 1);
        y.at(13);
        DUE.is("UNTIL is NOW and the lease, not the old UNTIL and it", y.saver(0, 0), 0);
        y.at(14);
        DUE.is("so it is DEAD at 14", y.saver(0, 0), 1);
    }

    // "(also if that is refused then)"
    private static void refusedCallsThatRenew() {
        renews("child, UNKNOWN block", x -> DUE.is("child", x.child(0, 77), SafeSweeps.UNKNOWN), true);
        renews("child, block -1", x -> DUE.is("child", x.child(0, -1), SafeSweeps.UNKNOWN), true);
        renews("child, not used", x -> DUE.is("child", x.child(0, 0), SafeSweeps.STATE), true);
        renews("child, a fifth", x -> DUE.is("child", x.child(0, 1), SafeSweeps.ROOM), true);
        renews("save, size 0", x -> DUE.is("save", x.save(0, 1, 0), SafeSweeps.OUTSIDE), true);
        renews("save, size 1001", x -> DUE.is("save", x.save(0, 1, 1001), SafeSweeps.OUTSIDE), true);
        renews("save, a ninth", x -> DUE.is("save", x.save(0, 99, 1), SafeSweeps.ROOM), true);
        renews("take, UNKNOWN block", x -> DUE.is("take", x.take(0, 77), SafeSweeps.UNKNOWN), true);
        renews("take, a ninth", x -> DUE.is("take", x.take(0, 0), SafeSweeps.ROOM), true);
    }

    private static void callsThatDoNotRenew() {
        renews("nothing", x -> { }, false);
        renews("commit, refused", x -> DUE.is("commit", x.commit(0, 4), SafeSweeps.OUTSIDE), false);
        renews("saver", x -> x.saver(0, 0), false);
        renews("block", x -> x.block(1, 6), false);
        renews("at", x -> x.at(10), false);
        renews("begin of another one", x -> x.begin(1000), false);
        renews("sweep", x -> x.sweep(), false);
        renews("another one's save", x -> x.save(x.begin(1), 50, 1), false);
        renews("another one's take of the same block", x -> x.take(x.begin(1), 1), false);
        renews("a call that names no saver", x -> x.take(4, 1), false);
    }

    private static void noLifeForTheDead() {
        SafeSweeps x = leased();
        x.at(11);
        DUE.is("DEAD: take", x.take(0, 1), SafeSweeps.STATE);
        DUE.is("DEAD: save", x.save(0, 1, 1), SafeSweeps.STATE);
        DUE.is("DEAD: child", x.child(0, 1), SafeSweeps.STATE);
        DUE.is("DEAD: save, size 0", x.save(0, 1, 0), SafeSweeps.OUTSIDE);
        DUE.is("DEAD: child, no block", x.child(0, 77), SafeSweeps.UNKNOWN);
        DUE.is("DEAD: take, no block", x.take(0, 77), SafeSweeps.UNKNOWN);
        DUE.is("it stays DEAD", x.saver(0, 0), 1);
    }

    // "When NOW is above UNTIL it is DEAD: its calls are STATE"
    private static void deadAboveUntil() {
        for (int late = 0; late < 2; late++) {
            int due = late == 0 ? 0 : SafeSweeps.STATE;
            SafeSweeps x = started(7);
            x.save(0, 1, 1);
            x.at(7 + late);
            DUE.is("whether it is DEAD " + late, x.saver(0, 0), late);
            DUE.is("commit " + late, x.commit(0, 0), due);
            SafeSweeps y = started(7);
            y.save(0, 1, 1);
            y.at(7 + late);
            DUE.is("take " + late, y.take(0, 0), due);
            SafeSweeps z = started(7);
            z.save(0, 1, 1);
            z.at(7 + late);
            DUE.is("save " + late, z.save(0, 1, 1), due);
            SafeSweeps w = started(7);
            w.save(0, 1, 1);
            w.at(7 + late);
            DUE.is("child " + late, w.child(0, 0), late == 0 ? 1 : due);
            DUE.is("give, DEAD or not", w.give(0), 1);
        }
    }

    // "it is gone when a sweep begins"
    private static void goneWhenASweepBegins() {
        SafeSweeps x = started(7);
        x.save(0, 1, 1);
        x.begin(8);
        x.save(1, 2, 1);
        x.at(8);
        DUE.is("it is counted", x.count(6), 2);
        DUE.is("it uses its block", x.block(0, 6), 1);
        x.sweep();
        DUE.is("the DEAD one is gone", x.saver(0, 0), SafeSweeps.UNKNOWN);
        DUE.is("its block is not used", x.block(0, 6), 0);
        DUE.is("the one at its UNTIL is not gone", x.saver(1, 0), 0);
        DUE.is("the row has its block alone", x.swept(1), 1);
        x.at(9);
        DUE.is("a sweep in a sweep lets none go", x.sweep(), SafeSweeps.STATE);
        DUE.is("DEAD it stays", x.saver(1, 0), 1);
        x.step(500);
        DUE.is("through the whole sweep", x.saver(1, 1), 1);
        x.sweep();
        DUE.is("up to the next one", x.saver(1, 0), SafeSweeps.UNKNOWN);
    }

    // "It USES blocks (8 at most ..)"; save(): "ROOM (it uses 8, and this is none of them)"; take(): "(it uses 8 others)"
    private static void eightBlocksAtMost() {
        SafeSweeps x = new SafeSweeps(20);
        x.begin(10);
        x.begin(10);
        x.save(1, 100, 1);
        for (int i = 1; i <= 7; i++) {
            DUE.is("save " + i, x.save(0, i, 1), i);
        }
        DUE.is("an eighth is taken", x.take(0, 0), 0);
        DUE.is("it uses 8", x.saver(0, 1), 8);
        x.save(1, 101, 1);
        DUE.is("a ninth, new", x.save(0, 9, 1), SafeSweeps.ROOM);
        DUE.is("a ninth, found", x.save(0, 101, 1), SafeSweeps.ROOM);
        DUE.is("a ninth, taken", x.take(0, 8), SafeSweeps.ROOM);
        DUE.is("the first of them, found", x.save(0, 1, 1), 1);
        DUE.is("the last of them, found", x.save(0, 100, 1), 0);
        DUE.is("the first of them, taken", x.take(0, 1), 0);
        DUE.is("the last of them, taken", x.take(0, 0), 0);
        DUE.is("it uses 8 still", x.saver(0, 1), 8);
        DUE.is("the eighth told", x.saver(0, 10), 0);
        DUE.is("no ninth told", x.saver(0, 11), SafeSweeps.OUTSIDE);
        SafeSweeps y = new SafeSweeps(20);
        y.begin(10);
        for (int i = 0; i < 8; i++) {
            DUE.is("eight new ones", y.save(0, i, 1), i);
        }
        DUE.is("not a ninth", y.save(0, 8, 1), SafeSweeps.ROOM);
        DUE.is("8 blocks", y.count(0), 8);
    }

    // "each once, in the order in which they came"
    private static void eachOnceInOrder() {
        SafeSweeps x = new SafeSweeps(20);
        x.begin(10);
        for (int i = 0; i < 5; i++) {
            x.save(0, i, 1);
        }
        x.begin(10);
        int[] comes = {3, 1, 3, 4, 1, 0, 3};
        for (int block : comes) {
            x.take(1, block);
            x.save(1, block, 1);
        }
        int[] uses = {3, 1, 4, 0};
        DUE.is("each once", x.saver(1, 1), uses.length);
        for (int i = 0; i < uses.length; i++) {
            DUE.is("in their order", x.saver(1, 3 + i), uses[i]);
        }
        DUE.is("and no more", x.saver(1, 3 + uses.length), SafeSweeps.OUTSIDE);
        DUE.is("both use block 0", x.block(0, 6), 2);
        DUE.is("one uses block 2", x.block(2, 6), 1);
    }

    // "and has a row of children (4 at most) for what it saves next"
    private static void fourChildrenAtMost() {
        SafeSweeps x = new SafeSweeps(20);
        x.begin(10);
        x.begin(10);
        x.save(0, 0, 1);
        x.take(1, 0);
        for (int i = 1; i <= 4; i++) {
            DUE.is("child " + i, x.child(0, 0), i);
            DUE.is("in the row", x.saver(0, 2), i);
        }
        DUE.is("a fifth", x.child(0, 0), SafeSweeps.ROOM);
        DUE.is("four in the row", x.saver(0, 2), 4);
        DUE.is("each saver has a row of its own", x.saver(1, 2), 0);
        DUE.is("what it saves next", x.save(0, 1, 1), 1);
        DUE.is("has four", x.block(1, 7), 4);
        DUE.is("what it saves then", x.save(0, 2, 1), 2);
        DUE.is("has none", x.block(2, 7), 0);
        DUE.is("a first one again", x.child(0, 0), 1);
    }

    // "children must be used by the saver"; child(): "STATE (.. or it does not use the block)"
    private static void childrenMustBeUsed() {
        SafeSweeps x = new SafeSweeps(20);
        x.begin(10);
        x.begin(10);
        x.save(0, 0, 1);
        x.save(1, 1, 1);
        DUE.is("its own", x.child(0, 0), 1);
        DUE.is("another one's", x.child(0, 1), SafeSweeps.STATE);
        x.take(0, 1);
        DUE.is("taken, it is its own", x.child(0, 1), 2);
        x.commit(0, 0);
        x.begin(10);
        DUE.is("a new saver uses none", x.child(0, 0), SafeSweeps.STATE);
        DUE.is("the row is empty", x.saver(0, 2), 0);
    }

    // "with the row of children (which is empty then, if it is not refused)"
    private static void rowIsEmptyThen() {
        SafeSweeps x = new SafeSweeps(20);
        x.begin(10);
        x.save(0, 0, 1);
        x.child(0, 0);
        x.save(0, 1, 1);
        DUE.is("empty behind a new one", x.saver(0, 2), 0);
        x.child(0, 0);
        DUE.is("found", x.save(0, 1, 1), 1);
        DUE.is("empty behind one that is found", x.saver(0, 2), 0);
        x.child(0, 0);
        x.take(0, 1);
        DUE.is("a take leaves it", x.saver(0, 2), 1);
    }

    private static void rowStaysIfRefused() {
        SafeSweeps x = leased();
        DUE.is("save, size", x.save(0, 1, 0), SafeSweeps.OUTSIDE);
        DUE.is("the row stays", x.saver(0, 2), 4);
        DUE.is("save, a ninth", x.save(0, 99, 1), SafeSweeps.ROOM);
        DUE.is("the row stays", x.saver(0, 2), 4);
        DUE.is("a fifth child", x.child(0, 1), SafeSweeps.ROOM);
        DUE.is("the row stays", x.saver(0, 2), 4);
        x.at(11);
        DUE.is("save, DEAD", x.save(0, 99, 1), SafeSweeps.STATE);
        DUE.is("the row stays", x.saver(0, 2), 4);
    }

    // "if a block that is THERE has just this key, size and these children, it is FOUND; else a new block comes"
    private static void foundIsJustTheSame() {
        SafeSweeps x = new SafeSweeps(20);
        x.begin(10);
        x.save(0, 0, 1);
        x.save(0, 1, 1);
        x.child(0, 0);
        x.child(0, 1);
        DUE.is("with children 0, 1", x.save(0, 9, 3), 2);
        x.begin(10);
        x.take(1, 0);
        x.take(1, 1);
        int[][] rows = {{0, 1}, {1, 1}, {0, 0}, {0}, {0, 1, 1}, {}};
        int[] due = {2, 3, 4, 5, 6, 7};
        for (int i = 0; i < rows.length; i++) {
            for (int child : rows[i]) {
                x.child(1, child);
            }
            DUE.is("row " + i, x.save(1, 9, 3), due[i]);
        }
        x.give(1);
        x.begin(10);
        x.take(1, 0);
        x.take(1, 1);
        x.child(1, 0);
        x.child(1, 1);
        DUE.is("another size", x.save(1, 9, 2), 8);
        x.child(1, 0);
        x.child(1, 1);
        DUE.is("another key", x.save(1, 8, 3), 9);
        x.child(1, 0);
        x.child(1, 1);
        DUE.is("a key that differs above 32 bits", x.save(1, 9 + (1L << 32), 3), 10);
        x.child(1, 1);
        x.child(1, 0);
        DUE.is("another order", x.save(1, 9, 3), 11);
        x.child(1, 0);
        x.child(1, 1);
        DUE.is("just the same", x.save(1, 9, 3), 2);
        DUE.is("a write for each new one alone", x.count(8), 12);
    }

    // "a block that is THERE": not one that was freed
    private static void foundIsThere() {
        SafeSweeps x = new SafeSweeps(20);
        x.begin(10);
        x.save(0, 5, 5);
        x.give(0);
        sweepWhole(x);
        sweepWhole(x);
        x.begin(10);
        DUE.is("a new one", x.save(0, 5, 5), 1);
        DUE.is("found", x.save(0, 5, 5), 1);
        DUE.is("the freed one is not used", x.block(0, 6), 0);
    }

    // "TO TAKE a block, also one that is found"
    private static void foundWaits() {
        SafeSweeps x = new SafeSweeps(20);
        x.begin(10);
        x.save(0, 5, 5);
        x.child(0, 0);
        x.save(0, 6, 5);
        x.give(0);
        sweepWhole(x);
        x.begin(10);
        x.take(0, 0);
        x.child(0, 0);
        DUE.is("found, though it waits", x.save(0, 6, 5), 1);
        DUE.is("it waits no more", x.block(1, 4), 0);
        DUE.is("two were revived", x.count(9), 2);
        DUE.is("it is used", x.saver(0, 4), 1);
        sweepWhole(x);
        DUE.is("none is freed", x.count(10), 0);
    }

    // "A new block is used, too"
    private static void newOneIsUsed() {
        SafeSweeps x = new SafeSweeps(20);
        x.begin(10);
        x.save(0, 5, 5);
        DUE.is("used", x.saver(0, 3), 0);
        DUE.is("by one", x.block(0, 6), 1);
        sweepWhole(x);
        DUE.is("so it does not wait", x.count(2), 0);
    }

    // "each block that it reaches, from the least number on, that is WAITING (part 4), waits no more (W, each)"
    private static void revivedFromTheLeastOn() {
        for (int n = 0; n <= 3; n++) {
            SafeSweeps x = new SafeSweeps(20);
            x.begin(10);
            x.save(0, 0, 1);
            x.save(0, 1, 1);
            x.save(0, 2, 1);
            x.child(0, 2);
            x.child(0, 0);
            x.save(0, 3, 1);
            x.give(0);
            sweepWhole(x);
            x.begin(10);
            int writes = x.count(8);
            x.cut(n);
            DUE.is("take", x.take(0, 3), n < 3 ? SafeSweeps.LOST : 3);
            DUE.is("revived", x.count(9), n);
            DUE.is("a write each", x.count(8), writes + n);
            DUE.is("0 first", x.block(0, 4), n > 0 ? 0 : 1);
            DUE.is("then 2", x.block(2, 4), n > 1 ? 0 : 1);
            DUE.is("then 3", x.block(3, 4), n > 2 ? 0 : 1);
            DUE.is("1 is not reached", x.block(1, 4), 1);
        }
    }

    private static void revivedOnlyIfWaiting() {
        SafeSweeps x = new SafeSweeps(20);
        x.begin(10);
        x.save(0, 0, 1);
        x.child(0, 0);
        x.save(0, 1, 1);
        DUE.is("none waits", x.take(0, 1), 0);
        x.give(0);
        sweepWhole(x);
        x.begin(10);
        DUE.is("one", x.take(0, 0), 1);
        DUE.is("the other", x.take(0, 1), 1);
        DUE.is("none", x.take(0, 1), 0);
        DUE.is("two in all", x.count(9), 2);
    }

    // "COMMIT: a snapshot comes (W) with NOW, the tag, and all that the saver uses as roots"
    private static void committedWithAll() {
        SafeSweeps x = new SafeSweeps(20);
        x.at(-77);
        x.begin(1000);
        x.save(0, 0, 1);
        x.child(0, 0);
        x.save(0, 1, 1);
        x.at(-7);
        DUE.is("commit", x.commit(0, 2), 0);
        DUE.is("its time is NOW", x.time(0), -7);
        DUE.is("its tag", x.snapshot(0, 0), 2);
        DUE.is("all it uses", x.snapshot(0, 1), 2);
        DUE.is("children, too", x.snapshot(0, 2), 0);
        DUE.is("in order", x.snapshot(0, 3), 1);
        SafeSweeps y = started(10);
        DUE.is("one that uses none", y.commit(0, 0), SafeSweeps.STATE);
        y.save(0, 0, 1);
        DUE.is("one that uses one", y.commit(0, 0), 0);
    }

    // "the saver is gone"
    private static void committedSaverIsGone() {
        SafeSweeps x = started(10);
        x.save(0, 0, 1);
        x.child(0, 0);
        x.commit(0, 0);
        DUE.is("gone", x.saver(0, 0), SafeSweeps.UNKNOWN);
        DUE.is("commit again", x.commit(0, 0), SafeSweeps.UNKNOWN);
        DUE.is("give", x.give(0), SafeSweeps.UNKNOWN);
        DUE.is("none uses the block", x.block(0, 6), 0);
        DUE.is("its number is free", x.begin(5), 0);
        DUE.is("its row of children went with it", x.saver(0, 2), 0);
        DUE.is("and what it used", x.saver(0, 1), 0);
        DUE.is("what the new one saves has no child", x.save(0, 3, 1), 1);
        DUE.is("none", x.block(1, 7), 0);
    }

    // give(): "A saver gives up (a DEAD one, too), and is gone: how many blocks it used."
    private static void giveTellsHowMany() {
        for (int used = 0; used <= 8; used++) {
            for (int late = 0; late < 2; late++) {
                SafeSweeps x = started(10);
                for (int i = 0; i < used; i++) {
                    x.save(0, i, 1);
                }
                x.at(10 + late);
                DUE.is("whether it is DEAD", x.saver(0, 0), late);
                DUE.is("give", x.give(0), used);
                DUE.is("gone", x.saver(0, 0), SafeSweeps.UNKNOWN);
                DUE.is("no saver", x.count(6), 0);
                DUE.is("give again", x.give(0), SafeSweeps.UNKNOWN);
                DUE.is("the blocks stay", x.count(1), used);
            }
        }
    }
}
