/** Promises 19 to 22 and 25: count, block, key, pack, saver; 23, 24 and 26 to 30 have tests of their own. */
public final class ToldTest {
    private static final Due DUE = new Due();

    public static void main(String[] args) {
        count();
        block();
        pack();
        saver();
        DUE.end();
    }

    private static void counts(SafeSweeps x, String when, int... due) {
        for (int what = 0; what < due.length; what++) {
            DUE.is(when + ": count(" + what + ")", x.count(what), due[what]);
        }
    }

    private static void count() {
        SafeSweeps x = new SafeSweeps(20);
        DUE.is("count(-1)", x.count(-1), SafeSweeps.OUTSIDE);
        DUE.is("count(14)", x.count(14), SafeSweeps.OUTSIDE);
        DUE.is("count, the ends", x.count(Integer.MIN_VALUE) + x.count(Integer.MAX_VALUE), 2 * SafeSweeps.OUTSIDE);
        x.begin(10);
        x.begin(10);
        x.save(0, 0, 10);
        x.save(1, 1, 10);
        x.save(0, 2, 10);
        x.save(1, 3, 10);
        counts(x, "four blocks", 4, 4, 0, 0, 2, 2, 2, 0, 4, 0, 0, 0, 4, 0);
        x.commit(0, 0);
        x.give(1);
        counts(x, "a snapshot", 4, 4, 0, 1, 2, 2, 0, 0, 5, 0, 0, 0, 5, 0);
        x.sweep();
        counts(x, "a sweep begins", 4, 4, 0, 1, 2, 2, 0, 1, 6, 0, 0, 0, 5, 0);
        x.step(500);
        counts(x, "two wait", 4, 4, 2, 1, 2, 2, 0, 1, 8, 0, 0, 0, 5, 0);
        x.begin(10);
        x.take(0, 1);
        counts(x, "one is revived", 4, 4, 1, 1, 2, 2, 1, 1, 9, 1, 0, 0, 5, 0);
        x.sweep();
        x.step(500);
        counts(x, "one is freed, a pack is packed anew", 4, 3, 0, 1, 3, 2, 1, 2, 13, 1, 1, 1, 6, 0);
        x.cut(0);
        x.drop(0);
        counts(x, "power goes", 4, 3, 0, 1, 3, 2, 0, 2, 13, 1, 1, 1, 6, 1);
        x.open();
        x.drop(0);
        counts(x, "the snapshot goes", 4, 3, 0, 0, 3, 2, 0, 2, 14, 1, 1, 1, 7, 0);
    }

    private static void block() {
        SafeSweeps x = new SafeSweeps(20);
        DUE.is("block(0, 0)", x.block(0, 0), SafeSweeps.UNKNOWN);
        DUE.is("key(0)", x.key(0), 0);
        x.begin(10);
        x.begin(10);
        x.save(0, Long.MAX_VALUE, 15);
        x.child(0, 0);
        x.child(0, 0);
        x.save(0, -3, 8);
        x.take(1, 0);
        int[] first = {1, 15, 0, 0, 0, 0, 2, 0, -1, -1, -1, -1, SafeSweeps.OUTSIDE};
        int[] second = {1, 8, 1, 0, 0, 0, 1, 2, 0, 0, -1, -1, SafeSweeps.OUTSIDE};
        for (int what = 0; what <= 12; what++) {
            DUE.is("block(0, " + what + ")", x.block(0, what), first[what]);
            DUE.is("block(1, " + what + ")", x.block(1, what), second[what]);
        }
        DUE.is("block(0, -1)", x.block(0, -1), SafeSweeps.OUTSIDE);
        DUE.is("block(0, far)", x.block(0, Integer.MAX_VALUE), SafeSweeps.OUTSIDE);
        DUE.is("block(2, -1)", x.block(2, -1), SafeSweeps.UNKNOWN);
        DUE.is("block(-1, 0)", x.block(-1, 0), SafeSweeps.UNKNOWN);
        DUE.is("block(80, 0)", x.block(80, 0), SafeSweeps.UNKNOWN);
        DUE.is("key(0) made", x.key(0), Long.MAX_VALUE);
        DUE.is("key(1)", x.key(1), -3);
        DUE.is("key(2)", x.key(2), 0);
        DUE.is("key(-1)", x.key(-1), 0);
        DUE.is("key(far)", x.key(Integer.MAX_VALUE), 0);
        x.give(0);
        x.give(1);
        x.sweep();
        x.step(2 + 2);
        DUE.is("waits since sweep 1", x.block(1, 4), 1);
        x.step(500);
        x.sweep();
        x.step(500);
        int[] freed = {0, 8, 1, 0, 0, 0, 0, 2, 0, 0, -1, -1};
        for (int what = 0; what < freed.length; what++) {
            DUE.is("freed: block(1, " + what + ")", x.block(1, what), freed[what]);
        }
        DUE.is("freed: key(1)", x.key(1), -3);
    }

    private static void pack() {
        SafeSweeps x = new SafeSweeps(20);
        x.begin(10);
        x.begin(10);
        x.save(0, 0, 7);
        x.save(1, 1, 6);
        x.save(0, 2, 7);
        x.save(0, 3, 1);
        int[] full = {1, 20, 0, 3, SafeSweeps.OUTSIDE};
        int[] other = {1, 1, 0, 1, SafeSweeps.OUTSIDE};
        for (int what = 0; what < 5; what++) {
            DUE.is("pack(0, " + what + ")", x.pack(0, what), full[what]);
            DUE.is("pack(1, " + what + ")", x.pack(1, what), other[what]);
        }
        DUE.is("pack(0, -1)", x.pack(0, -1), SafeSweeps.OUTSIDE);
        DUE.is("pack(2, -1)", x.pack(2, -1), SafeSweeps.UNKNOWN);
        DUE.is("pack(-1, 0)", x.pack(-1, 0), SafeSweeps.UNKNOWN);
        DUE.is("pack(40, 0)", x.pack(40, 0), SafeSweeps.UNKNOWN);
        x.give(1);
        for (int i = 0; i < 2; i++) {
            x.sweep();
            x.step(500);
        }
        int[] holed = {1, 20, 6, 2};
        for (int what = 0; what < 4; what++) {
            DUE.is("holed: pack(0, " + what + ")", x.pack(0, what), holed[what]);
        }
        x.share(30);
        x.sweep();
        x.step(500);
        int[] latest = {1, 15, 0, 3};
        for (int what = 0; what < 4; what++) {
            DUE.is("gone: pack(0, " + what + ")", x.pack(0, what), 0);
            DUE.is("the latest: pack(1, " + what + ")", x.pack(1, what), latest[what]);
        }
        DUE.is("gone: pack(0, 4)", x.pack(0, 4), SafeSweeps.OUTSIDE);
    }

    private static void saver() {
        SafeSweeps x = new SafeSweeps(20);
        DUE.is("saver(0, 0)", x.saver(0, 0), SafeSweeps.UNKNOWN);
        x.at(0);
        x.begin(10);
        DUE.is("new: saver(0, 0)", x.saver(0, 0), 0);
        DUE.is("new: saver(0, 1)", x.saver(0, 1), 0);
        DUE.is("new: saver(0, 2)", x.saver(0, 2), 0);
        DUE.is("new: saver(0, 3)", x.saver(0, 3), SafeSweeps.OUTSIDE);
        x.begin(10);
        x.save(1, 5, 1);
        x.save(0, 6, 1);
        x.take(0, 0);
        x.child(0, 0);
        int[] due = {0, 2, 1, 1, 0, SafeSweeps.OUTSIDE};
        for (int what = 0; what < due.length; what++) {
            DUE.is("saver(0, " + what + ")", x.saver(0, what), due[what]);
        }
        DUE.is("saver(0, -1)", x.saver(0, -1), SafeSweeps.OUTSIDE);
        DUE.is("saver(0, the ends)", x.saver(0, Integer.MIN_VALUE) + x.saver(0, Integer.MAX_VALUE), 2 * SafeSweeps.OUTSIDE);
        DUE.is("saver(2, -1)", x.saver(2, -1), SafeSweeps.UNKNOWN);
        DUE.is("saver(-1, 0)", x.saver(-1, 0), SafeSweeps.UNKNOWN);
        DUE.is("saver(4, 0)", x.saver(4, 0), SafeSweeps.UNKNOWN);
        x.at(11);
        DUE.is("dead", x.saver(0, 0), 1);
        DUE.is("told of a dead one", x.saver(0, 3), 1);
    }
}
