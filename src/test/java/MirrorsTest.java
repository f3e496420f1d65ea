/** Promises 18 and 28 to 30: follow, mirrored, has, audit. */
public final class MirrorsTest {
    private static final Due DUE = new Due();

    public static void main(String[] args) {
        refusals();
        follows();
        followsWhileDown();
        longestHistory();
        audit();
        DUE.end();
    }

    private static void refusals() {
        SafeSweeps x = new SafeSweeps(20);
        DUE.is("follow(-1, 0)", x.follow(-1, 0), SafeSweeps.UNKNOWN);
        DUE.is("follow(2, -1)", x.follow(2, -1), SafeSweeps.UNKNOWN);
        DUE.is("follow(0, -1)", x.follow(0, -1), SafeSweeps.OUTSIDE);
        DUE.is("follow(0, 501)", x.follow(0, 501), SafeSweeps.OUTSIDE);
        DUE.is("follow(1, 500)", x.follow(1, 500), 0);
        DUE.is("follow(1, 0)", x.follow(1, 0), 0);
        DUE.is("mirrored(-1, 0)", x.mirrored(-1, 0), SafeSweeps.UNKNOWN);
        DUE.is("mirrored(2, 9)", x.mirrored(2, 9), SafeSweeps.UNKNOWN);
        DUE.is("mirrored(0, -1)", x.mirrored(0, -1), SafeSweeps.OUTSIDE);
        DUE.is("mirrored(0, 4)", x.mirrored(0, 4), SafeSweeps.OUTSIDE);
        int[] odd = {-1, 0, 79, 80, Integer.MIN_VALUE, Integer.MAX_VALUE};
        for (int one : odd) {
            DUE.is("has(0, " + one + ")", x.has(0, one), false);
            DUE.is("has(" + one + ", 0)", x.has(one, 0), false);
        }
    }

    private static void mirror(SafeSweeps x, String when, int mirror, int... due) {
        for (int what = 0; what < due.length; what++) {
            DUE.is(when + ": mirrored(" + mirror + ", " + what + ")", x.mirrored(mirror, what), due[what]);
        }
        DUE.is(when + ": audit", x.audit(), 0);
    }

    /** Blocks 0 and 1 come, then a snapshot with both, then block 2. */
    private static SafeSweeps some() {
        SafeSweeps x = new SafeSweeps(20);
        x.begin(10);
        x.save(0, 0, 1);
        x.child(0, 0);
        x.save(0, 1, 1);
        x.commit(0, 0);
        x.begin(10);
        x.save(0, 2, 1);
        x.give(0);
        return x;
    }

    private static void follows() {
        SafeSweeps x = some();
        mirror(x, "at first", 0, 0, 0, 0, 0);
        DUE.is("follow(0, 0)", x.follow(0, 0), 4);
        mirror(x, "nothing", 0, 0, 0, 0, 0);
        DUE.is("follow(0, 1)", x.follow(0, 1), 3);
        mirror(x, "one", 0, 1, 1, 0, 0);
        DUE.is("has(0, 0)", x.has(0, 0), true);
        DUE.is("has(0, 1)", x.has(0, 1), false);
        DUE.is("has(1, 0)", x.has(1, 0), false);
        DUE.is("follow(0, 2)", x.follow(0, 2), 1);
        mirror(x, "three", 0, 3, 2, 1, 0);
        DUE.is("follow(0, 500)", x.follow(0, 500), 0);
        mirror(x, "four", 0, 4, 3, 1, 0);
        mirror(x, "the other one", 1, 0, 0, 0, 0);
        x.drop(0);
        for (int i = 0; i < 2; i++) {
            x.sweep();
            x.step(500);
        }
        DUE.is("history: 4, the snapshot went, three are freed", x.count(12), 8);
        mirror(x, "it stays where it is", 0, 4, 3, 1, 0);
        DUE.is("it has what the store has not", x.has(0, 1), true);
        DUE.is("follow(0, 1) more", x.follow(0, 1), 3);
        mirror(x, "the snapshot went", 0, 5, 3, 0, 0);
        DUE.is("follow(0, 1): the last block first", x.follow(0, 1), 2);
        DUE.is("has(0, 2)", x.has(0, 2), false);
        DUE.is("has(0, 1) still", x.has(0, 1), true);
        DUE.is("follow(1, 3)", x.follow(1, 3), 5);
        mirror(x, "a snapshot that is gone since", 1, 3, 2, 1, 0);
        DUE.is("follow(0, 500) up to now", x.follow(0, 500), 0);
        mirror(x, "all gone", 0, 8, 0, 0, 0);
    }

    private static void followsWhileDown() {
        SafeSweeps x = some();
        x.cut(0);
        DUE.is("lost", x.drop(0), SafeSweeps.LOST);
        DUE.is("down: follow(1, 2)", x.follow(1, 2), 2);
        mirror(x, "down", 1, 2, 2, 0, 0);
        DUE.is("down: follow(3, 2)", x.follow(3, 2), SafeSweeps.UNKNOWN);
        x.open();
        mirror(x, "mirrors stay", 1, 2, 2, 0, 0);
        DUE.is("what was not written is no history", x.count(12), 4);
    }

    /** All 80 blocks come and are freed, all 40 snapshots come and go. */
    private static void longestHistory() {
        SafeSweeps x = new SafeSweeps(100);
        for (int i = 0; i < 40; i++) {
            x.begin(10);
            x.save(0, 2 * i, 1);
            x.save(0, 2 * i + 1, 1);
            DUE.is("commit", x.commit(0, 0), i);
            x.drop(i - 9);
        }
        x.follow(0, 150);
        mirror(x, "all 80 blocks, 10 snapshots", 0, 150, 80, 10, 0);
        x.prune(true);
        for (int i = 0; i < 2; i++) {
            x.sweep();
            x.step(500);
        }
        DUE.is("the longest history", x.count(12), 240);
        DUE.is("follow to its end", x.follow(1, 500), 0);
        mirror(x, "nothing is left", 1, 240, 0, 0, 0);
        DUE.is("follow the rest", x.follow(0, 89), 1);
        mirror(x, "one is left", 0, 239, 1, 0, 0);
        DUE.is("the least block is freed last", x.has(0, 0), true);
    }

    private static void audit() {
        SafeSweeps x = new SafeSweeps(20);
        DUE.is("audit of nothing", x.audit(), 0);
        for (int round = 0; round < 8; round++) {
            x.begin(100);
            x.begin(100);
            for (int i = 0; i < 4; i++) {
                x.save(0, 10 * round + i, 3 + i);
                x.save(1, 1000 + 10 * round + i, 2 + i);
                x.child(0, x.saver(0, 3 + i));
            }
            x.commit(0, round % 4);
            x.give(1);
            x.drop(round - 2);
            x.sweep();
            for (int i = 0; i < 200 && x.swept(0) > 0; i++) {
                x.step(9);
                DUE.is("audit in round " + round, x.audit(), 0);
            }
            x.follow(round % 2, 5);
            DUE.is("audit behind round " + round, x.audit(), 0);
        }
        DUE.is("much was freed", x.count(10) > 20, true);
        DUE.is("much was packed anew", x.count(11) > 3, true);
    }
}
