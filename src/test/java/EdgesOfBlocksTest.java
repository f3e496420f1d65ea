/** Part 2, sentence by sentence: blocks, packs, snapshots; promise 1. */
public final class EdgesOfBlocksTest {
    private static final Due DUE = new Due();

    public static void main(String[] args) {
        capacityAtItsEdges();
        eightyBlocksEver();
        eightyBlocksEverThoughFreed();
        sizesAtTheirEdges();
        keysAtTheirEdges();
        noneToFourChildren();
        oneChildTwice();
        thereUntilFreed();
        reachesAndSoOn();
        fortyPacksEver();
        fortyPacksEverThoughGone();
        latestPackHasRoom();
        latestPackIsGone();
        onlyTheLatestPack();
        holesOfFreedBlocks();
        holeAtTheEnd();
        tenSnapshotsThere();
        fortySnapshotsEver();
        tagsAtTheirEdges();
        rootsInOrder();
        DUE.end();
    }

    private static void sweepWhole(SafeSweeps x) {
        x.sweep();
        x.step(500);
    }

    /** Blocks of one size, which nobody uses. */
    private static SafeSweeps filled(int capacity, int blocks, int size) {
        SafeSweeps x = new SafeSweeps(capacity);
        for (int i = 0; i < blocks; i++) {
            if (i % 8 == 0) {
                x.give(0);
                x.begin(10);
            }
            DUE.is("filled", x.save(0, i, size), i);
        }
        x.give(0);
        return x;
    }

    private static void lies(SafeSweeps x, String when, int block, int pack, int place) {
        DUE.is(when + ": its pack", x.block(block, 2), pack);
        DUE.is(when + ": its place", x.block(block, 3), place);
    }

    private static void packIs(SafeSweeps x, String when, int pack, int... due) {
        for (int what = 0; what < due.length; what++) {
            DUE.is(when + ": pack(" + pack + ", " + what + ")", x.pack(pack, what), due[what]);
        }
    }

    // "CAPACITY (20 .. 1000, else the nearer one)"
    private static void capacityAtItsEdges() {
        int[][] askedAndHad = {{Integer.MIN_VALUE, 20}, {-1, 20}, {0, 20}, {19, 20}, {20, 20}, {21, 21},
            {999, 999}, {1000, 1000}, {1001, 1000}, {Integer.MAX_VALUE, 1000}};
        for (int[] pair : askedAndHad) {
            SafeSweeps x = new SafeSweeps(pair[0]);
            x.begin(10);
            DUE.is(pair[0] + ": a byte too many", x.save(0, 1, pair[1] + 1), SafeSweeps.OUTSIDE);
            DUE.is(pair[0] + ": as many as may be", x.save(0, 2, pair[1]), 0);
            x.save(0, 3, pair[1] - 1);
            x.save(0, 4, 1);
            lies(x, pair[0] + ": up to the last byte of pack 1", 2, 1, pair[1] - 1);
        }
    }

    // "BLOCKS (80 at most, ever)"
    private static void eightyBlocksEver() {
        SafeSweeps x = filled(1000, 79, 1);
        x.begin(10);
        DUE.is("the 80th", x.save(0, 1000, 1), 79);
        DUE.is("an 81st", x.save(0, 1001, 1), SafeSweeps.ROOM);
        DUE.is("one that is found", x.save(0, 0, 1), 0);
        DUE.is("80 were made", x.count(0), 80);
        DUE.is("the last has a number", x.block(79, 0), 1);
        DUE.is("none behind it", x.block(80, 0), SafeSweeps.UNKNOWN);
        DUE.is("its key", x.key(79), 1000);
        DUE.is("it may be a child", x.child(0, 79), 1);
        DUE.is("and taken", x.take(0, 79), 0);
    }

    private static void eightyBlocksEverThoughFreed() {
        SafeSweeps x = filled(1000, 80, 1);
        sweepWhole(x);
        sweepWhole(x);
        DUE.is("none is there", x.count(1), 0);
        DUE.is("80 were freed", x.count(10), 80);
        x.begin(10);
        DUE.is("an 81st, ever", x.save(0, 0, 1), SafeSweeps.ROOM);
        DUE.is("80 were made", x.count(0), 80);
    }

    // "a SIZE (1 .. CAPACITY bytes)"
    private static void sizesAtTheirEdges() {
        for (int capacity : new int[] {20, 57, 1000}) {
            SafeSweeps x = new SafeSweeps(capacity);
            x.begin(10);
            DUE.is("size 0", x.save(0, 1, 0), SafeSweeps.OUTSIDE);
            DUE.is("size -1", x.save(0, 1, -1), SafeSweeps.OUTSIDE);
            DUE.is("size above", x.save(0, 1, capacity + 1), SafeSweeps.OUTSIDE);
            DUE.is("size 1", x.save(0, 1, 1), 0);
            DUE.is("size CAPACITY", x.save(0, 1, capacity), 1);
            DUE.is("told", x.block(0, 1), 1);
            DUE.is("told", x.block(1, 1), capacity);
        }
    }

    private static void keysAtTheirEdges() {
        SafeSweeps x = new SafeSweeps(20);
        long[] keys = {0, -1, 1, Long.MIN_VALUE, Long.MAX_VALUE, 1L << 32, -101, 5};
        x.begin(10);
        for (int i = 0; i < keys.length; i++) {
            DUE.is("save of key " + keys[i], x.save(0, keys[i], 1), i);
        }
        for (int i = 0; i < keys.length; i++) {
            DUE.is("found by key " + keys[i], x.save(0, keys[i], 1), i);
            DUE.is("key", x.key(i), keys[i]);
        }
    }

    // "0 to 4 CHILDREN, blocks with lesser numbers, in order"
    private static void noneToFourChildren() {
        for (int children = 0; children <= 5; children++) {
            SafeSweeps x = new SafeSweeps(20);
            x.begin(10);
            for (int i = 0; i < 5; i++) {
                x.save(0, i, 1);
            }
            for (int i = 0; i < children; i++) {
                DUE.is("child " + i, x.child(0, 4 - i), i < 4 ? i + 1 : SafeSweeps.ROOM);
            }
            int has = Math.min(4, children);
            DUE.is("their row", x.saver(0, 2), has);
            DUE.is("a block with them", x.save(0, 50, 1), 5);
            DUE.is("how many", x.block(5, 7), has);
            for (int i = 0; i < 4; i++) {
                DUE.is("child " + i + " of " + has, x.block(5, 8 + i), i < has ? 4 - i : SafeSweeps.NONE);
            }
        }
    }

    // "(one may be there twice)"
    private static void oneChildTwice() {
        SafeSweeps x = new SafeSweeps(20);
        x.begin(10);
        x.save(0, 1, 1);
        for (int i = 1; i <= 4; i++) {
            DUE.is("the same child", x.child(0, 0), i);
        }
        x.save(0, 2, 1);
        for (int i = 0; i < 4; i++) {
            DUE.is("told as often", x.block(1, 8 + i), 0);
        }
        x.child(0, 0);
        x.child(0, 0);
        DUE.is("twice is another block than four times", x.save(0, 2, 1), 2);
        x.child(0, 0);
        DUE.is("once is another one", x.save(0, 2, 1), 3);
        x.child(0, 0);
        x.child(0, 0);
        DUE.is("twice is found", x.save(0, 2, 1), 2);
    }

    // "A block is THERE until it is FREED."
    private static void thereUntilFreed() {
        SafeSweeps x = filled(20, 1, 5);
        DUE.is("there", x.block(0, 0), 1);
        sweepWhole(x);
        DUE.is("it waits", x.block(0, 4), 1);
        DUE.is("there still", x.block(0, 0), 1);
        DUE.is("counted", x.count(1), 1);
        x.sweep();
        x.step(1);
        DUE.is("until it is chosen", x.block(0, 0), 1);
        x.step(1);
        DUE.is("freed", x.block(0, 0), 0);
        DUE.is("not counted", x.count(1), 0);
        DUE.is("made", x.count(0), 1);
        x.begin(10);
        DUE.is("not taken", x.take(0, 0), SafeSweeps.UNKNOWN);
        DUE.is("not found", x.save(0, 0, 5), 1);
    }

    // "What a block REACHES is it, its children, theirs, and so on."
    private static void reachesAndSoOn() {
        SafeSweeps x = new SafeSweeps(1000);
        for (int i = 0; i < 80; i++) {
            if (i % 7 == 0) {
                x.give(0);
                x.begin(10);
                x.take(0, i - 1);
            }
            x.child(0, i - 1);
            DUE.is("a chain", x.save(0, i, 1), i);
        }
        x.give(0);
        sweepWhole(x);
        DUE.is("all wait", x.count(2), 80);
        x.begin(10);
        DUE.is("itself alone", x.take(0, 0), 1);
        DUE.is("itself, the first being revived", x.take(0, 1), 1);
        DUE.is("40 less 2", x.take(0, 39), 38);
        DUE.is("all the others", x.take(0, 79), 40);
        x.commit(0, 0);
        sweepWhole(x);
        DUE.is("none waits", x.count(2), 0);
    }

    // "PACKS (40 at most, ever)"
    private static void fortyPacksEver() {
        SafeSweeps x = filled(20, 39, 20);
        x.begin(10);
        DUE.is("the 40th pack", x.save(0, 100, 18), 39);
        lies(x, "the 40th pack", 39, 39, 0);
        DUE.is("a 41st", x.save(0, 101, 3), SafeSweeps.ROOM);
        DUE.is("no block came", x.count(0), 40);
        DUE.is("what has room in the 40th", x.save(0, 102, 2), 40);
        lies(x, "what has room in the 40th", 40, 39, 18);
        DUE.is("it is full", x.save(0, 103, 1), SafeSweeps.ROOM);
        DUE.is("40 packs", x.count(4), 40);
        DUE.is("the last one told", x.pack(39, 1), 20);
        DUE.is("none behind it", x.pack(40, 0), SafeSweeps.UNKNOWN);
    }

    private static void fortyPacksEverThoughGone() {
        SafeSweeps x = filled(20, 40, 20);
        sweepWhole(x);
        sweepWhole(x);
        DUE.is("all are gone", x.count(5), 0);
        x.begin(10);
        DUE.is("a 41st, ever", x.save(0, 0, 1), SafeSweeps.ROOM);
        DUE.is("40 were made", x.count(4), 40);
    }

    // "A block comes behind what lies in the latest pack, if that .. has room for it, else into a new one, behind nothing."
    private static void latestPackHasRoom() {
        SafeSweeps x = new SafeSweeps(30);
        x.begin(10);
        x.save(0, 0, 1);
        lies(x, "the first of all", 0, 0, 0);
        x.save(0, 1, 19);
        lies(x, "behind it", 1, 0, 1);
        x.save(0, 2, 11);
        lies(x, "a byte more than there is room", 2, 1, 0);
        x.save(0, 3, 19);
        lies(x, "just as much as there is room", 3, 1, 11);
        x.save(0, 4, 1);
        lies(x, "no room at all", 4, 2, 0);
        x.save(0, 5, 29);
        lies(x, "just as much again", 5, 2, 1);
        DUE.is("three packs", x.count(4), 3);
    }

    // "if that is not gone"
    private static void latestPackIsGone() {
        SafeSweeps x = new SafeSweeps(30);
        x.begin(10);
        x.begin(10);
        x.save(0, 0, 25);
        x.save(1, 1, 10);
        x.give(1);
        sweepWhole(x);
        sweepWhole(x);
        packIs(x, "gone", 1, 0, 0, 0, 0);
        DUE.is("pack 0 stays", x.count(5), 1);
        x.save(0, 2, 5);
        lies(x, "not behind what lies in pack 0, nor in the one that is gone", 2, 2, 0);
    }

    private static void onlyTheLatestPack() {
        SafeSweeps x = new SafeSweeps(30);
        x.begin(10);
        x.save(0, 0, 5);
        x.save(0, 1, 30);
        x.save(0, 2, 5);
        lies(x, "pack 0 has room, but is not the latest", 2, 2, 0);
    }

    // "A block that is freed leaves a HOLE of its size; the others stay where they are."
    private static void holesOfFreedBlocks() {
        SafeSweeps x = new SafeSweeps(30);
        x.begin(10);
        x.begin(10);
        x.save(1, 0, 3);
        x.save(0, 1, 10);
        x.save(1, 2, 4);
        x.save(0, 3, 10);
        x.give(1);
        x.share(0);
        sweepWhole(x);
        packIs(x, "they wait", 0, 1, 27, 0, 4);
        sweepWhole(x);
        packIs(x, "two holes", 0, 1, 27, 7, 2);
        lies(x, "behind the first hole", 1, 0, 3);
        lies(x, "behind the second hole", 3, 0, 17);
        lies(x, "as it lay last", 2, 0, 13);
        DUE.is("audit", x.audit(), 0);
    }

    private static void holeAtTheEnd() {
        SafeSweeps x = new SafeSweeps(30);
        x.begin(10);
        x.begin(10);
        x.save(0, 0, 10);
        x.save(1, 1, 15);
        x.give(1);
        x.share(0);
        sweepWhole(x);
        sweepWhole(x);
        packIs(x, "a hole at its end", 0, 1, 25, 15, 1);
        x.save(0, 2, 5);
        lies(x, "a hole lies there, too", 2, 0, 25);
        x.save(0, 3, 1);
        lies(x, "holes are no room", 3, 1, 0);
        SafeSweeps y = new SafeSweeps(30);
        y.begin(10);
        y.save(0, 0, 12);
        y.give(0);
        y.share(0);
        sweepWhole(y);
        sweepWhole(y);
        packIs(y, "a hole alone", 0, 1, 12, 12, 0);
        y.begin(10);
        y.save(0, 1, 18);
        lies(y, "behind the hole", 1, 0, 12);
    }

    // "SNAPSHOTS (10 there at most; ..)"
    private static void tenSnapshotsThere() {
        SafeSweeps x = new SafeSweeps(30);
        for (int i = 0; i < 10; i++) {
            x.begin(10);
            x.save(0, i, 1);
            DUE.is("snapshot " + i, x.commit(0, 0), i);
        }
        x.begin(10);
        x.take(0, 0);
        DUE.is("an eleventh", x.commit(0, 0), SafeSweeps.ROOM);
        DUE.is("ten are there", x.count(3), 10);
        DUE.is("its saver stays", x.saver(0, 1), 1);
        x.drop(4);
        DUE.is("one went, one comes", x.commit(0, 0), 10);
        x.begin(10);
        x.take(0, 0);
        DUE.is("ten again", x.commit(0, 0), SafeSweeps.ROOM);
    }

    // "(..; 40 ever)"
    private static void fortySnapshotsEver() {
        SafeSweeps x = new SafeSweeps(30);
        for (int i = 0; i < 40; i++) {
            x.begin(10);
            x.save(0, 1, 1);
            DUE.is("snapshot " + i, x.commit(0, 3), i);
            if (i < 39) {
                x.drop(i);
            }
        }
        DUE.is("the 40th is there", x.snapshot(39, 0), 3);
        DUE.is("it is the only one", x.count(3), 1);
        x.begin(10);
        x.take(0, 0);
        DUE.is("a 41st, ever", x.commit(0, 0), SafeSweeps.ROOM);
        DUE.is("the 40th is kept", x.rule(0, 1) + x.keeps(39), 1);
        x.drop(39);
        DUE.is("a 41st, though none is there", x.commit(0, 0), SafeSweeps.ROOM);
        DUE.is("nothing behind the 40th", x.snapshot(40, 0), SafeSweeps.UNKNOWN);
    }

    // "a TAG 0 .. 3"
    private static void tagsAtTheirEdges() {
        SafeSweeps x = new SafeSweeps(30);
        for (int tag = -1; tag <= 4; tag++) {
            x.begin(10);
            x.save(0, 1, 1);
            boolean may = tag >= 0 && tag <= 3;
            DUE.is("commit with tag " + tag, x.commit(0, tag), may ? tag : SafeSweeps.OUTSIDE);
            if (may) {
                DUE.is("its tag", x.snapshot(tag, 0), tag);
            }
            x.give(0);
        }
        DUE.is("four snapshots", x.count(3), 4);
    }

    // "and ROOTS, in order"
    private static void rootsInOrder() {
        SafeSweeps x = new SafeSweeps(30);
        x.begin(10);
        for (int i = 0; i < 8; i++) {
            x.save(0, i, 1);
        }
        x.give(0);
        int[] order = {5, 0, 7, 3, 1, 6, 2, 4};
        for (int length = 1; length <= 8; length++) {
            x.begin(10);
            for (int i = 0; i < length; i++) {
                x.take(0, order[i]);
                x.take(0, order[0]);
            }
            int made = x.commit(0, 0);
            DUE.is("roots", x.snapshot(made, 1), length);
            for (int i = 0; i < length; i++) {
                DUE.is("root " + i + " of " + length, x.snapshot(made, 2 + i), order[i]);
            }
            DUE.is("no root behind them", x.snapshot(made, 2 + length), SafeSweeps.OUTSIDE);
        }
    }
}
