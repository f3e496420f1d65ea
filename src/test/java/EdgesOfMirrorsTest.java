/** Part 6, sentence by sentence: the history, mirrors; promises 18 and 28 to 30. */
public final class EdgesOfMirrorsTest {
    private static final Due DUE = new Due();

    public static void main(String[] args) {
        historyAtFirst();
        whatIsHistory();
        whatIsNoHistory();
        lostWritesAreNoHistory();
        mirrorsAtTheirEdges();
        followAtItsEdges();
        followTellsWhatIsLeft();
        followWhileDown();
        firstSoMany();
        mirrorsAreTwo();
        justWhatTheseLeave();
        itsSnapshotsAreWhole();
        hasAtItsEdges();
        longestHistory();
        auditIsAlwaysNone();
        DUE.end();
    }

    private static void sweepWhole(SafeSweeps x) {
        x.sweep();
        x.step(500);
    }

    private static void mirror(SafeSweeps x, String when, int mirror, int... due) {
        for (int what = 0; what < due.length; what++) {
            DUE.is(when + ": mirrored(" + mirror + ", " + what + ")", x.mirrored(mirror, what), due[what]);
        }
    }

    private static void historyAtFirst() {
        SafeSweeps x = new SafeSweeps(20);
        DUE.is("its length", x.count(12), 0);
        DUE.is("nothing to follow", x.follow(0, 500), 0);
        mirror(x, "at first", 0, 0, 0, 0, 0);
        mirror(x, "at first", 1, 0, 0, 0, 0);
    }

    // "a row of what writes did: a block came, a block was freed, a snapshot came, a snapshot went"
    private static void whatIsHistory() {
        SafeSweeps x = new SafeSweeps(20);
        x.begin(10);
        x.save(0, 1, 1);
        DUE.is("a block came", x.count(12), 1);
        x.commit(0, 0);
        DUE.is("a snapshot came", x.count(12), 2);
        x.drop(0);
        DUE.is("a snapshot went", x.count(12), 3);
        sweepWhole(x);
        DUE.is("the block waits", x.count(12), 3);
        sweepWhole(x);
        DUE.is("a block was freed", x.count(12), 4);
        int[][] due = {{1, 1, 0, 0}, {2, 1, 1, 0}, {3, 1, 0, 0}, {4, 0, 0, 0}};
        for (int i = 0; i < due.length; i++) {
            DUE.is("follow", x.follow(0, 1), 3 - i);
            mirror(x, "event " + i, 0, due[i]);
            DUE.is("has it", x.has(0, 0), i < 3);
        }
        x.begin(10);
        for (int i = 0; i < 3; i++) {
            x.save(0, 2, 1);
            x.commit(0, 0);
            x.begin(10);
        }
        DUE.is("a block and three snapshots", x.count(12), 8);
        x.prune(true);
        DUE.is("three went", x.count(12), 11);
    }

    private static void whatIsNoHistory() {
        SafeSweeps x = new SafeSweeps(20);
        x.begin(10);
        x.begin(10);
        x.save(0, 1, 10);
        x.save(1, 2, 10);
        x.give(1);
        sweepWhole(x);
        DUE.is("a sweep, one that waits", x.count(12), 2);
        DUE.is("revived", x.take(0, 1), 1);
        x.save(0, 1, 10);
        DUE.is("nor is one that is revived or found", x.count(12), 2);
        x.commit(0, 0);
        x.begin(10);
        x.take(0, 0);
        x.drop(0);
        sweepWhole(x);
        sweepWhole(x);
        DUE.is("packed anew", x.count(11), 1);
        DUE.is("a snapshot came and went, a block was freed, and no more", x.count(12), 5);
        x.give(0);
        x.at(0);
        x.rule(0, 1);
        x.share(1);
        x.follow(0, 2);
        DUE.is("calls without a write", x.count(12), 5);
    }

    private static void lostWritesAreNoHistory() {
        SafeSweeps x = new SafeSweeps(20);
        x.begin(10);
        x.save(0, 1, 1);
        x.cut(0);
        x.save(0, 2, 1);
        DUE.is("a block that did not come", x.count(12), 1);
        x.open();
        x.begin(10);
        x.take(0, 0);
        x.cut(0);
        x.commit(0, 0);
        DUE.is("a snapshot that did not come", x.count(12), 1);
        x.open();
        x.begin(10);
        x.take(0, 0);
        x.commit(0, 0);
        x.cut(0);
        x.drop(0);
        DUE.is("one that did not go", x.count(12), 2);
        x.open();
        x.drop(0);
        sweepWhole(x);
        x.sweep();
        x.cut(0);
        x.step(500);
        DUE.is("a block that was not freed", x.count(12), 3);
        x.follow(0, 500);
        mirror(x, "so the mirror has it", 0, 3, 1, 0, 0);
    }

    // "MIRRORS 0, 1"; follow(), mirrored(): "UNKNOWN"
    private static void mirrorsAtTheirEdges() {
        SafeSweeps x = new SafeSweeps(20);
        for (int mirror : new int[] {Integer.MIN_VALUE, -1, 2, 3, Integer.MAX_VALUE}) {
            DUE.is("follow(" + mirror + ", 0)", x.follow(mirror, 0), SafeSweeps.UNKNOWN);
            DUE.is("follow(" + mirror + ", -1)", x.follow(mirror, -1), SafeSweeps.UNKNOWN);
            DUE.is("mirrored(" + mirror + ", 0)", x.mirrored(mirror, 0), SafeSweeps.UNKNOWN);
            DUE.is("mirrored(" + mirror + ", 4)", x.mirrored(mirror, 4), SafeSweeps.UNKNOWN);
            DUE.is("has(" + mirror + ", 0)", x.has(mirror, 0), false);
        }
        for (int mirror = 0; mirror < 2; mirror++) {
            DUE.is("mirrored(" + mirror + ", -1)", x.mirrored(mirror, -1), SafeSweeps.OUTSIDE);
            DUE.is("mirrored(" + mirror + ", 0)", x.mirrored(mirror, 0), 0);
            DUE.is("mirrored(" + mirror + ", 3)", x.mirrored(mirror, 3), 0);
            DUE.is("mirrored(" + mirror + ", 4)", x.mirrored(mirror, 4), SafeSweeps.OUTSIDE);
        }
    }

    /** Five blocks, and a snapshot of them. */
    private static SafeSweeps six() {
        SafeSweeps x = new SafeSweeps(20);
        x.begin(10);
        for (int i = 0; i < 5; i++) {
            x.save(0, i, 1);
        }
        x.commit(0, 0);
        return x;
    }

    // follow(): "OUTSIDE (n 0 .. 500)"
    private static void followAtItsEdges() {
        SafeSweeps x = six();
        DUE.is("follow(0, -1)", x.follow(0, -1), SafeSweeps.OUTSIDE);
        DUE.is("follow(0, 501)", x.follow(0, 501), SafeSweeps.OUTSIDE);
        DUE.is("the greatest", x.follow(0, Integer.MAX_VALUE), SafeSweeps.OUTSIDE);
        DUE.is("the least", x.follow(0, Integer.MIN_VALUE), SafeSweeps.OUTSIDE);
        mirror(x, "it has done nothing", 0, 0, 0, 0);
        DUE.is("follow(0, 0)", x.follow(0, 0), 6);
        mirror(x, "nothing still", 0, 0, 0, 0);
        DUE.is("follow(0, 500)", x.follow(0, 500), 0);
        mirror(x, "all", 0, 6, 5, 1);
        DUE.is("follow(0, 500) again", x.follow(0, 500), 0);
        mirror(x, "all", 0, 6, 5, 1);
    }

    // "Up to n more of the history are done by a mirror ..: how many are left"
    private static void followTellsWhatIsLeft() {
        for (int n = 0; n <= 7; n++) {
            SafeSweeps x = six();
            DUE.is("follow(1, " + n + ")", x.follow(1, n), Math.max(0, 6 - n));
            mirror(x, "then", 1, Math.min(6, n), Math.min(5, n), n > 5 ? 1 : 0, 0);
            DUE.is("two more", x.follow(1, 2), Math.max(0, 4 - n));
            x.drop(0);
            DUE.is("one more came", x.follow(1, 0), Math.max(0, 4 - n) + 1);
        }
    }

    // "(also while the store is DOWN)"
    private static void followWhileDown() {
        SafeSweeps x = six();
        x.cut(0);
        DUE.is("LOST", x.drop(0), SafeSweeps.LOST);
        DUE.is("follow(0, 4)", x.follow(0, 4), 2);
        mirror(x, "DOWN", 0, 4, 4, 0, 0);
        DUE.is("has", x.has(0, 3), true);
        DUE.is("has not yet", x.has(0, 4), false);
        DUE.is("follow(0, 501)", x.follow(0, 501), SafeSweeps.OUTSIDE);
        DUE.is("follow(2, 1)", x.follow(2, 1), SafeSweeps.UNKNOWN);
        x.open();
        mirror(x, "up again", 0, 4, 4, 0, 0);
        DUE.is("the rest", x.follow(0, 2), 0);
    }

    // "A mirror has done the first so many of these (0 at first)"
    private static void firstSoMany() {
        SafeSweeps x = six();
        for (int n = 0; n < 5; n++) {
            for (int block = 0; block < 5; block++) {
                DUE.is("after " + n + ": block " + block, x.has(0, block), block < n);
            }
            x.follow(0, 1);
        }
        DUE.is("the snapshot comes last", x.mirrored(0, 2), 0);
        x.follow(0, 1);
        DUE.is("it came", x.mirrored(0, 2), 1);
    }

    private static void mirrorsAreTwo() {
        SafeSweeps x = six();
        x.follow(0, 2);
        mirror(x, "0 followed", 0, 2, 2, 0, 0);
        mirror(x, "1 did not", 1, 0, 0, 0, 0);
        x.follow(1, 5);
        mirror(x, "0 did not", 0, 2, 2, 0, 0);
        mirror(x, "1 followed", 1, 5, 5, 0, 0);
    }

    // "and has just the blocks and snapshots that these leave": not what the store has by now
    private static void justWhatTheseLeave() {
        SafeSweeps x = six();
        x.follow(0, 6);
        x.drop(0);
        sweepWhole(x);
        sweepWhole(x);
        DUE.is("the store has none", x.count(1) + x.count(3), 0);
        mirror(x, "the mirror has all", 0, 6, 5, 1, 0);
        DUE.is("has", x.has(0, 4), true);
        DUE.is("the other follows a part", x.follow(1, 6), 6);
        mirror(x, "what the first part leaves", 1, 6, 5, 1, 0);
        x.follow(1, 1);
        mirror(x, "the snapshot went", 1, 7, 5, 0, 0);
        for (int i = 0; i < 5; i++) {
            x.follow(1, 1);
            mirror(x, "a block was freed", 1, 8 + i, 4 - i, 0, 0);
            DUE.is("from the last one down", x.has(1, 4 - i), false);
            DUE.is("the one below it is there", x.has(1, 3 - i), i < 4);
        }
        DUE.is("audit", x.audit(), 0);
    }

    // mirrored(): "how many of its snapshots reach a block that it does not have": history's order leaves none
    private static void itsSnapshotsAreWhole() {
        SafeSweeps x = new SafeSweeps(20);
        for (int i = 0; i < 5; i++) {
            x.begin(10);
            x.take(0, i - 1);
            x.child(0, i - 1);
            x.save(0, i, 3);
            x.commit(0, 0);
        }
        x.drop(1);
        x.drop(3);
        x.drop(4);
        sweepWhole(x);
        sweepWhole(x);
        int all = x.count(12);
        DUE.is("ten came, three snapshots went, two blocks were freed", all, 15);
        for (int i = 0; i <= all; i++) {
            DUE.is("whole after " + i, x.mirrored(0, 3), 0);
            DUE.is("left", x.follow(0, 1), Math.max(0, all - i - 1));
        }
        mirror(x, "at its end", 0, 15, 3, 2, 0);
    }

    // has(): "Whether a mirror has a block."
    private static void hasAtItsEdges() {
        SafeSweeps x = new SafeSweeps(1000);
        for (int i = 0; i < 80; i++) {
            if (i % 8 == 0) {
                x.give(0);
                x.begin(10);
            }
            x.save(0, i, 1);
        }
        x.follow(0, 79);
        DUE.is("block 78", x.has(0, 78), true);
        DUE.is("block 79 not yet", x.has(0, 79), false);
        x.follow(0, 1);
        DUE.is("block 79", x.has(0, 79), true);
        DUE.is("block 0", x.has(0, 0), true);
        DUE.is("block -1", x.has(0, -1), false);
        DUE.is("block 80", x.has(0, 80), false);
        DUE.is("the greatest", x.has(0, Integer.MAX_VALUE), false);
        DUE.is("the least", x.has(0, Integer.MIN_VALUE), false);
        DUE.is("mirror 1", x.has(1, 0), false);
        DUE.is("mirror -1", x.has(-1, 0), false);
        DUE.is("mirror 2", x.has(2, 0), false);
        mirror(x, "all 80", 0, 80, 80, 0, 0);
    }

    /** 80 blocks and 40 snapshots at most, ever: each may come and go. */
    private static void longestHistory() {
        SafeSweeps x = new SafeSweeps(1000);
        for (int i = 0; i < 40; i++) {
            x.begin(10);
            x.save(0, 2 * i, 1);
            x.save(0, 2 * i + 1, 1);
            x.commit(0, 0);
            DUE.is("drop", x.drop(i), 1);
        }
        sweepWhole(x);
        sweepWhole(x);
        DUE.is("its length", x.count(12), 240);
        DUE.is("all but one", x.follow(0, 239), 1);
        mirror(x, "all but one", 0, 239, 1, 0, 0);
        DUE.is("the least block is freed last", x.has(0, 0), true);
        DUE.is("all", x.follow(0, 1), 0);
        mirror(x, "all", 0, 240, 0, 0, 0);
        DUE.is("in one", x.follow(1, 240), 0);
        mirror(x, "in one", 1, 240, 0, 0, 0);
    }

    // audit(): "(it is always 0)"
    private static void auditIsAlwaysNone() {
        SafeSweeps x = new SafeSweeps(20);
        DUE.is("of nothing", x.audit(), 0);
        x.begin(10);
        x.begin(10);
        x.save(0, 0, 6);
        x.save(1, 1, 10);
        x.child(0, 0);
        x.save(0, 2, 4);
        x.save(0, 3, 1);
        DUE.is("of savers and packs", x.audit(), 0);
        x.commit(0, 0);
        x.give(1);
        x.follow(0, 3);
        DUE.is("of snapshots and a mirror", x.audit(), 0);
        for (int i = 0; i < 2; i++) {
            x.sweep();
            while (x.swept(0) > 0) {
                x.step(1);
                DUE.is("in a sweep", x.audit(), 0);
            }
        }
        DUE.is("one is packed anew", x.count(11), 1);
        x.cut(0);
        x.drop(0);
        DUE.is("of a store that is DOWN", x.audit(), 0);
        DUE.is("its mirror", x.follow(1, 4) + x.audit(), x.follow(1, 0));
    }
}
