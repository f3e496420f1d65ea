/** Promises 1 to 8: a new object, at, begin, child, save, take, commit, give. */
public final class SaversTest {
    private static final Due DUE = new Due();

    public static void main(String[] args) {
        newObject();
        capacities();
        at();
        begin();
        leases();
        leasesOfRefusedCalls();
        child();
        save();
        saveFinds();
        saveRoom();
        blocksAndPacksRunOut();
        take();
        takeRevives();
        takeRevivesOnlyWhatItReaches();
        commit();
        give();
        DUE.end();
    }

    private static void newObject() {
        SafeSweeps x = new SafeSweeps(50);
        for (int what = 0; what <= 13; what++) {
            DUE.is("new: count(" + what + ")", x.count(what), 0);
        }
        DUE.is("new: swept(0)", x.swept(0), 0);
        DUE.is("new: block(0, 0)", x.block(0, 0), SafeSweeps.UNKNOWN);
        DUE.is("new: pack(0, 0)", x.pack(0, 0), SafeSweeps.UNKNOWN);
        DUE.is("new: snapshot(0, 0)", x.snapshot(0, 0), SafeSweeps.UNKNOWN);
        DUE.is("new: saver(0, 0)", x.saver(0, 0), SafeSweeps.UNKNOWN);
        DUE.is("new: share(50)", x.share(50), 50);
        for (int kind = 0; kind <= 5; kind++) {
            DUE.is("new: rule(" + kind + ", 1)", x.rule(kind, 1), 0);
        }
        DUE.is("new: open()", x.open(), SafeSweeps.STATE);
        x.begin(5);
        for (int i = 0; i < 8; i++) {
            DUE.is("power stays: save", x.save(0, i, 1), i);
        }
    }

    private static void capacities() {
        int[][] askedAndHad = {{20, 20}, {19, 20}, {0, 20}, {-5, 20}, {Integer.MIN_VALUE, 20}, {21, 21},
            {1000, 1000}, {999, 999}, {1001, 1000}, {Integer.MAX_VALUE, 1000}};
        for (int[] pair : askedAndHad) {
            SafeSweeps x = new SafeSweeps(pair[0]);
            x.begin(1);
            DUE.is("capacity " + pair[0] + ": too much", x.save(0, 1, pair[1] + 1), SafeSweeps.OUTSIDE);
            DUE.is("capacity " + pair[0] + ": just all", x.save(0, 1, pair[1]), 0);
            DUE.is("capacity " + pair[0] + ": one byte more", x.save(0, 2, 1), 1);
            DUE.is("capacity " + pair[0] + ": in a new pack", x.block(1, 2), 1);
        }
    }

    private static void at() {
        SafeSweeps x = new SafeSweeps(20);
        DUE.is("at below the first", x.at(-10000000001L), SafeSweeps.OUTSIDE);
        DUE.is("at the first", x.at(-10000000000L), 1);
        DUE.is("at(5)", x.at(5), 1);
        DUE.is("at(4) behind 5", x.at(4), SafeSweeps.OUTSIDE);
        DUE.is("at(5) again", x.at(5), 1);
        DUE.is("at, too far", x.at(1000000000001L), SafeSweeps.OUTSIDE);
        DUE.is("at, the farthest long", x.at(Long.MAX_VALUE), SafeSweeps.OUTSIDE);
        DUE.is("at, the least long", x.at(Long.MIN_VALUE), SafeSweeps.OUTSIDE);
        x.begin(1);
        x.save(0, 1, 1);
        x.commit(0, 0);
        DUE.is("refused times change nothing", x.time(0), 5);
        DUE.is("at the last", x.at(1000000000000L), 1);
        DUE.is("a lease behind the last time", x.begin(1000000), 0);
        DUE.is("it lives", x.saver(0, 0), 0);
    }

    private static void begin() {
        SafeSweeps x = new SafeSweeps(20);
        DUE.is("begin(0)", x.begin(0), SafeSweeps.OUTSIDE);
        DUE.is("begin(-1)", x.begin(-1), SafeSweeps.OUTSIDE);
        DUE.is("begin(1000001)", x.begin(1000001), SafeSweeps.OUTSIDE);
        DUE.is("begin(1)", x.begin(1), 0);
        DUE.is("begin(1000000)", x.begin(1000000), 1);
        DUE.is("begin(2)", x.begin(2), 2);
        DUE.is("begin(3)", x.begin(3), 3);
        DUE.is("begin: a fifth", x.begin(3), SafeSweeps.ROOM);
        DUE.is("begin: a fifth with a wrong lease", x.begin(0), SafeSweeps.OUTSIDE);
        x.give(2);
        x.give(1);
        DUE.is("begin: the least free number", x.begin(3), 1);
        DUE.is("begin: the next free one", x.begin(3), 2);
        x.at(0);
        DUE.is("begin: dead ones still have their numbers", x.begin(3), SafeSweeps.ROOM);
        x.sweep();
        DUE.is("begin: a sweep let them go", x.begin(3), 0);
    }

    private static void leases() {
        SafeSweeps x = new SafeSweeps(20);
        x.at(0);
        x.begin(10);
        x.at(10);
        DUE.is("at UNTIL it lives", x.saver(0, 0), 0);
        DUE.is("save at UNTIL", x.save(0, 1, 1), 0);
        x.at(20);
        DUE.is("take at UNTIL", x.take(0, 0), 0);
        x.at(30);
        DUE.is("child at UNTIL", x.child(0, 0), 1);
        x.at(40);
        DUE.is("it lives for its whole lease", x.saver(0, 0), 0);
        DUE.is("saver() and commit() do not lengthen it", x.commit(0, 9), SafeSweeps.OUTSIDE);
        x.at(41);
        DUE.is("above UNTIL it is dead", x.saver(0, 0), 1);
        DUE.is("dead: save", x.save(0, 2, 1), SafeSweeps.STATE);
        DUE.is("dead: save of what it uses", x.save(0, 1, 1), SafeSweeps.STATE);
        DUE.is("dead: take", x.take(0, 0), SafeSweeps.STATE);
        DUE.is("dead: child", x.child(0, 0), SafeSweeps.STATE);
        DUE.is("dead: commit", x.commit(0, 0), SafeSweeps.STATE);
        DUE.is("dead it stays", x.saver(0, 0), 1);
        DUE.is("dead: UNKNOWN comes before", x.child(0, 7), SafeSweeps.UNKNOWN);
        DUE.is("dead: UNKNOWN comes before, take", x.take(0, 7), SafeSweeps.UNKNOWN);
        DUE.is("dead: OUTSIDE comes before", x.save(0, 1, 0), SafeSweeps.OUTSIDE);
        DUE.is("dead: OUTSIDE comes before, commit", x.commit(0, 4), SafeSweeps.OUTSIDE);
        DUE.is("dead ones count", x.count(6), 1);
        DUE.is("dead ones use blocks", x.block(0, 6), 1);
        DUE.is("dead ones may give up", x.give(0), 1);
    }

    private static void leasesOfRefusedCalls() {
        SafeSweeps x = new SafeSweeps(20);
        x.at(0);
        x.begin(10);
        x.begin(1000);
        x.save(1, 5, 1);
        int[] answers = new int[6];
        for (int i = 0; i < 6; i++) {
            x.at(10 * (i + 1));
            switch (i) {
                case 0: answers[i] = x.save(0, 1, 0); break;
                case 1: answers[i] = x.save(0, 1, 21); break;
                case 2: answers[i] = x.child(0, 9); break;
                case 3: answers[i] = x.child(0, 0); break;
                case 4: answers[i] = x.take(0, -1); break;
                default: answers[i] = x.take(0, 80); break;
            }
            DUE.is("refused call " + i + " lengthens the lease", x.saver(0, 0), 0);
        }
        int[] due = {SafeSweeps.OUTSIDE, SafeSweeps.OUTSIDE, SafeSweeps.UNKNOWN, SafeSweeps.STATE, SafeSweeps.UNKNOWN, SafeSweeps.UNKNOWN};
        for (int i = 0; i < 6; i++) {
            DUE.is("refused call " + i, answers[i], due[i]);
        }
        x.at(70);
        DUE.is("the last one lengthened it, too", x.saver(0, 0), 0);
        x.at(71);
        DUE.is("and no further", x.saver(0, 0), 1);
    }

    private static void child() {
        SafeSweeps x = new SafeSweeps(20);
        x.begin(10);
        x.begin(10);
        x.save(0, 1, 1);
        x.save(0, 2, 1);
        x.save(1, 3, 1);
        DUE.is("child: no saver", x.child(2, 0), SafeSweeps.UNKNOWN);
        DUE.is("child: saver -1", x.child(-1, 0), SafeSweeps.UNKNOWN);
        DUE.is("child: saver 4", x.child(4, 0), SafeSweeps.UNKNOWN);
        DUE.is("child: no block", x.child(0, 3), SafeSweeps.UNKNOWN);
        DUE.is("child: block -1", x.child(0, -1), SafeSweeps.UNKNOWN);
        DUE.is("child: another one's block", x.child(0, 2), SafeSweeps.STATE);
        DUE.is("child 1", x.child(0, 1), 1);
        DUE.is("child 2", x.child(0, 0), 2);
        DUE.is("child 3", x.child(0, 1), 3);
        DUE.is("child 4", x.child(0, 1), 4);
        DUE.is("child 5", x.child(0, 1), SafeSweeps.ROOM);
        DUE.is("child 5 of a block not used", x.child(0, 2), SafeSweeps.STATE);
        DUE.is("children wait", x.saver(0, 2), 4);
        DUE.is("save with children", x.save(0, 9, 1), 3);
        DUE.is("they are its children", x.block(3, 7), 4);
        int[] children = {1, 0, 1, 1};
        for (int i = 0; i < 4; i++) {
            DUE.is("child " + i, x.block(3, 8 + i), children[i]);
        }
        DUE.is("the row is empty then", x.saver(0, 2), 0);
    }

    private static void save() {
        SafeSweeps x = new SafeSweeps(20);
        DUE.is("save: no saver", x.save(0, 1, 1), SafeSweeps.UNKNOWN);
        x.begin(10);
        DUE.is("save: no saver 1", x.save(1, 1, 0), SafeSweeps.UNKNOWN);
        DUE.is("save: size 0", x.save(0, 1, 0), SafeSweeps.OUTSIDE);
        DUE.is("save: size 21", x.save(0, 1, 21), SafeSweeps.OUTSIDE);
        DUE.is("save: a size far below", x.save(0, 1, Integer.MIN_VALUE), SafeSweeps.OUTSIDE);
        DUE.is("save: a size far above", x.save(0, 1, Integer.MAX_VALUE), SafeSweeps.OUTSIDE);
        DUE.is("nothing was written", x.count(8), 0);
        DUE.is("save: size 20", x.save(0, Long.MIN_VALUE, 20), 0);
        DUE.is("its key", x.key(0), Long.MIN_VALUE);
        DUE.is("one write", x.count(8), 1);
        DUE.is("save: size 1", x.save(0, 0, 1), 1);
        DUE.is("behind nothing in a new pack", x.block(1, 2) * 100 + x.block(1, 3), 100);
        DUE.is("save: size 19", x.save(0, 3, 19), 2);
        DUE.is("behind it, up to the last byte", x.block(2, 2) * 100 + x.block(2, 3), 101);
        DUE.is("save: one more byte", x.save(0, 4, 1), 3);
        DUE.is("in a third pack", x.block(3, 2), 2);
        x.save(0, 5, 20);
        DUE.is("save: a small one", x.save(0, 6, 1), 5);
        DUE.is("only the latest pack takes it", x.block(5, 2), 4);
        DUE.is("the saver uses it", x.saver(0, 3 + 5), 5);
        DUE.is("a refused save keeps the row", x.child(0, 0) + x.save(0, 1, 0) + x.saver(0, 2), 2 + SafeSweeps.OUTSIDE);
    }

    private static void saveFinds() {
        SafeSweeps x = new SafeSweeps(100);
        x.begin(10);
        x.begin(10);
        x.save(0, 1, 5);
        x.save(0, 2, 5);
        DUE.is("found by another saver", x.save(1, 1, 5), 0);
        DUE.is("who uses it then", x.saver(1, 3), 0);
        DUE.is("two use it", x.block(0, 6), 2);
        DUE.is("found again", x.save(1, 1, 5), 0);
        DUE.is("each is used once", x.saver(1, 1), 1);
        DUE.is("another size is another block", x.save(0, 1, 6), 2);
        DUE.is("another key is another block", x.save(0, 3, 5), 3);
        x.child(0, 0);
        x.child(0, 1);
        DUE.is("with children it is another block", x.save(0, 1, 5), 4);
        x.child(0, 1);
        x.child(0, 0);
        DUE.is("in another order it is another block", x.save(0, 1, 5), 5);
        x.child(0, 0);
        DUE.is("with fewer it is another block", x.save(0, 1, 5), 6);
        x.child(0, 1);
        DUE.is("with another one it is another block", x.save(0, 1, 5), 7);
        x.child(0, 0);
        x.child(0, 1);
        DUE.is("with the same ones it is found", x.save(0, 1, 5), 4);
        DUE.is("the row is empty then", x.saver(0, 2), 0);
        DUE.is("a write for each new block only", x.count(8), 8);
    }

    private static void saveRoom() {
        SafeSweeps x = new SafeSweeps(20);
        x.begin(10);
        x.begin(10);
        for (int i = 0; i < 8; i++) {
            x.save(0, i, 1);
        }
        x.save(1, 8, 1);
        x.child(0, 3);
        DUE.is("a ninth, new", x.save(0, 9, 1), SafeSweeps.ROOM);
        DUE.is("the row stays", x.saver(0, 2), 1);
        DUE.is("no block came", x.count(0), 9);
        SafeSweeps y = new SafeSweeps(20);
        y.begin(10);
        y.begin(10);
        for (int i = 0; i < 8; i++) {
            y.save(0, i, 1);
        }
        y.save(1, 8, 1);
        DUE.is("a ninth that is found", y.save(0, 8, 1), SafeSweeps.ROOM);
        DUE.is("one of the eight", y.save(0, 7, 1), 7);
        DUE.is("it still uses 8", y.saver(0, 1), 8);
    }

    private static void blocksAndPacksRunOut() {
        SafeSweeps x = new SafeSweeps(1000);
        fill(x, 80, 1);
        x.begin(10);
        DUE.is("the 81st block", x.save(0, 80, 1), SafeSweeps.ROOM);
        DUE.is("80 blocks", x.count(0), 80);
        DUE.is("an old one is found", x.save(0, 79, 1), 79);
        SafeSweeps y = new SafeSweeps(20);
        fill(y, 40, 20);
        y.begin(10);
        DUE.is("the 41st pack", y.save(0, 80, 1), SafeSweeps.ROOM);
        DUE.is("40 packs", y.count(4), 40);
        DUE.is("40 blocks", y.count(0), 40);
        SafeSweeps z = new SafeSweeps(20);
        fill(z, 39, 20);
        z.begin(10);
        DUE.is("into the 40th pack", z.save(0, 80, 19), 39);
        DUE.is("what has no room there", z.save(0, 81, 2), SafeSweeps.ROOM);
        DUE.is("what has", z.save(0, 81, 1), 40);
    }

    private static void fill(SafeSweeps x, int blocks, int size) {
        for (int i = 0; i < blocks; i++) {
            if (i % 8 == 0) {
                x.give(0);
                x.begin(10);
            }
            DUE.is("fill", x.save(0, i, size), i);
        }
        x.give(0);
    }

    private static void take() {
        SafeSweeps x = new SafeSweeps(100);
        DUE.is("take: no saver", x.take(0, 0), SafeSweeps.UNKNOWN);
        x.begin(10);
        x.begin(10);
        for (int i = 0; i < 8; i++) {
            x.save(0, i, 1);
        }
        x.save(1, 8, 1);
        DUE.is("take: no block", x.take(0, 9), SafeSweeps.UNKNOWN);
        DUE.is("take: block -1", x.take(0, -1), SafeSweeps.UNKNOWN);
        DUE.is("take: saver 2", x.take(2, 0), SafeSweeps.UNKNOWN);
        DUE.is("take: a ninth", x.take(0, 8), SafeSweeps.ROOM);
        DUE.is("take: one of the eight", x.take(0, 4), 0);
        DUE.is("take: another one's", x.take(1, 4), 0);
        DUE.is("take: it is used", x.saver(1, 4), 4);
        DUE.is("take: again", x.take(1, 4), 0);
        DUE.is("take: used once", x.saver(1, 1), 2);
        DUE.is("take: nothing is written", x.count(8), 9);
    }

    private static void takeRevives() {
        SafeSweeps x = new SafeSweeps(100);
        x.begin(10);
        x.save(0, 0, 1);
        x.save(0, 1, 1);
        x.child(0, 0);
        x.child(0, 0);
        x.save(0, 2, 1);
        x.child(0, 2);
        x.save(0, 3, 1);
        x.give(0);
        x.sweep();
        x.step(500);
        DUE.is("four wait", x.count(2), 4);
        int writes = x.count(8);
        x.begin(10);
        DUE.is("take: it and its child", x.take(0, 2), 2);
        DUE.is("a write each", x.count(8), writes + 2);
        DUE.is("two wait", x.count(2), 2);
        DUE.is("its parent waits", x.block(3, 4), 1);
        DUE.is("another one waits", x.block(1, 4), 1);
        DUE.is("its child does not", x.block(0, 4), 0);
        DUE.is("take: again", x.take(0, 2), 0);
        DUE.is("save finds a block that waits", x.save(0, 1, 1), 1);
        DUE.is("and it is revived", x.block(1, 4), 0);
        DUE.is("three were revived", x.count(9), 3);
        x.sweep();
        x.step(500);
        DUE.is("take: a block that was freed", x.take(0, 3), SafeSweeps.UNKNOWN);
        DUE.is("child: a block that was freed", x.child(0, 3), SafeSweeps.UNKNOWN);
        x.child(0, 2);
        DUE.is("save: what was freed comes anew", x.save(0, 3, 1), 4);
    }

    private static void takeRevivesOnlyWhatItReaches() {
        SafeSweeps x = new SafeSweeps(100);
        x.begin(10);
        x.save(0, 0, 1);
        x.save(0, 1, 1);
        x.save(0, 2, 1);
        x.give(0);
        x.sweep();
        x.step(500);
        x.begin(10);
        DUE.is("take: itself", x.take(0, 1), 1);
        x.sweep();
        x.give(0);
        x.step(500);
        x.sweep();
        x.step(500);
        DUE.is("it waits again", x.block(1, 4), 3);
        x.begin(10);
        x.save(0, 5, 1);
        DUE.is("take: a new one", x.take(0, 3), 0);
        DUE.is("what was taken long ago waits still", x.block(1, 4), 3);
    }

    private static void commit() {
        SafeSweeps x = new SafeSweeps(100);
        DUE.is("commit: no saver", x.commit(0, 0), SafeSweeps.UNKNOWN);
        x.at(77);
        x.begin(10);
        DUE.is("commit: uses none", x.commit(0, 0), SafeSweeps.STATE);
        DUE.is("commit: tag -1", x.commit(0, -1), SafeSweeps.OUTSIDE);
        DUE.is("commit: tag 4", x.commit(0, 4), SafeSweeps.OUTSIDE);
        DUE.is("commit: saver 1, tag 4", x.commit(1, 4), SafeSweeps.UNKNOWN);
        x.save(0, 5, 1);
        x.save(0, 6, 1);
        x.take(0, 0);
        DUE.is("commit", x.commit(0, 3), 0);
        DUE.is("three writes", x.count(8), 3);
        DUE.is("its tag", x.snapshot(0, 0), 3);
        DUE.is("its roots", x.snapshot(0, 1), 2);
        DUE.is("its first root", x.snapshot(0, 2), 0);
        DUE.is("its second root", x.snapshot(0, 3), 1);
        DUE.is("its time", x.time(0), 77);
        DUE.is("the saver is gone", x.saver(0, 0), SafeSweeps.UNKNOWN);
        DUE.is("a new one has nothing of it", x.begin(5) + x.saver(0, 1) + x.saver(0, 2), 0);
        for (int i = 1; i < 10; i++) {
            x.take(0, 0);
            DUE.is("commit " + i, x.commit(0, 0), i);
            x.begin(5);
        }
        x.take(0, 0);
        DUE.is("an eleventh", x.commit(0, 0), SafeSweeps.ROOM);
        DUE.is("its saver stays", x.saver(0, 1), 1);
        for (int i = 10; i < 40; i++) {
            x.drop(i - 10);
            x.begin(5);
            x.take(0, 0);
            DUE.is("commit " + i, x.commit(0, 1), i);
        }
        DUE.is("nine go", x.drop(30) + x.drop(31) + x.drop(32), 3);
        x.begin(5);
        x.take(0, 0);
        DUE.is("a 41st, ever", x.commit(0, 0), SafeSweeps.ROOM);
    }

    private static void give() {
        SafeSweeps x = new SafeSweeps(100);
        DUE.is("give: none", x.give(0), SafeSweeps.UNKNOWN);
        DUE.is("give: -1", x.give(-1), SafeSweeps.UNKNOWN);
        DUE.is("give: 4", x.give(4), SafeSweeps.UNKNOWN);
        x.begin(10);
        DUE.is("give: uses none", x.give(0), 0);
        x.begin(10);
        x.save(0, 1, 1);
        x.save(0, 2, 1);
        x.at(0);
        DUE.is("give: a dead one", x.give(0), 2);
        DUE.is("give: gone", x.give(0), SafeSweeps.UNKNOWN);
        DUE.is("give: blocks stay", x.count(1), 2);
        DUE.is("give: no write", x.count(8), 2);
    }
}
