/** Promises 9 to 12, 23 and 24: drop, rule, keeps, prune, snapshot, time. */
public final class SnapshotsTest {
    private static final Due DUE = new Due();
    private static final long DAY = 86400;

    public static void main(String[] args) {
        drop();
        rule();
        keepsLast();
        keepsPeriods();
        keepsBefore1970();
        keepsTags();
        prune();
        pruneOrder();
        told();
        DUE.end();
    }

    private static void snap(SafeSweeps x, long t, int tag) {
        DUE.is("at(" + t + ")", x.at(t), 1);
        x.begin(10);
        x.save(0, 1, 1);
        DUE.is("commit at " + t, x.commit(0, tag) >= 0, true);
    }

    private static void keeps(SafeSweeps x, String when, int... due) {
        for (int i = 0; i < due.length; i++) {
            DUE.is(when + ": keeps(" + i + ")", x.keeps(i), due[i]);
        }
    }

    private static void drop() {
        SafeSweeps x = new SafeSweeps(20);
        DUE.is("drop: none", x.drop(0), SafeSweeps.UNKNOWN);
        snap(x, 0, 0);
        snap(x, 1, 0);
        int writes = x.count(8);
        DUE.is("drop: -1", x.drop(-1), SafeSweeps.UNKNOWN);
        DUE.is("drop: 2", x.drop(2), SafeSweeps.UNKNOWN);
        DUE.is("drop: 0", x.drop(0), 1);
        DUE.is("drop: a write", x.count(8), writes + 1);
        DUE.is("drop: 0 again", x.drop(0), SafeSweeps.UNKNOWN);
        DUE.is("drop: one is left", x.count(3), 1);
        DUE.is("drop: keeps of it", x.keeps(0), SafeSweeps.UNKNOWN);
        DUE.is("drop: time of it", x.time(0), 0);
        DUE.is("drop: the history has it", x.count(12), 4);
    }

    private static void rule() {
        SafeSweeps x = new SafeSweeps(20);
        for (int kind = 0; kind < 5; kind++) {
            DUE.is("rule " + kind + ", 100", x.rule(kind, 100), 0);
            DUE.is("rule " + kind + ", 101", x.rule(kind, 101), SafeSweeps.OUTSIDE);
            DUE.is("rule " + kind + ", -1", x.rule(kind, -1), SafeSweeps.OUTSIDE);
            DUE.is("rule " + kind + ", 3", x.rule(kind, 3), 100);
            DUE.is("rule " + kind + ", 0", x.rule(kind, 0), 3);
        }
        DUE.is("rule 5, 15", x.rule(5, 15), 0);
        DUE.is("rule 5, 16", x.rule(5, 16), SafeSweeps.OUTSIDE);
        DUE.is("rule 5, 0", x.rule(5, 0), 15);
        DUE.is("rule 6", x.rule(6, 0), SafeSweeps.OUTSIDE);
        DUE.is("rule -1", x.rule(-1, 0), SafeSweeps.OUTSIDE);
        DUE.is("rule of the ends", x.rule(Integer.MIN_VALUE, Integer.MAX_VALUE), SafeSweeps.OUTSIDE);
        DUE.is("rules are no writes", x.count(8), 0);
    }

    private static void keepsLast() {
        SafeSweeps x = new SafeSweeps(20);
        DUE.is("keeps: none", x.keeps(0), SafeSweeps.UNKNOWN);
        for (int i = 0; i < 4; i++) {
            snap(x, i, 0);
        }
        keeps(x, "no rule", 0, 0, 0, 0);
        x.rule(0, 2);
        keeps(x, "LAST 2", 0, 0, 1, 1);
        x.drop(3);
        DUE.is("LAST 2 of those that are there", x.keeps(1), 1);
        DUE.is("not more", x.keeps(0), 0);
        x.rule(0, 100);
        keeps(x, "LAST 100", 1, 1, 1);
        DUE.is("keeps(-1)", x.keeps(-1), SafeSweeps.UNKNOWN);
        DUE.is("keeps(4)", x.keeps(4), SafeSweeps.UNKNOWN);
    }

    private static void keepsPeriods() {
        SafeSweeps x = new SafeSweeps(20);
        snap(x, 0, 0);                    // Thursday, January 1
        snap(x, 3 * DAY + 86399, 0);      // Sunday, January 4, its last second
        snap(x, 4 * DAY, 0);              // Monday, January 5
        snap(x, 4 * DAY + 5, 0);          // the same day
        snap(x, 10 * DAY, 0);             // Sunday, January 11
        snap(x, 31 * DAY - 1, 0);         // January 31
        snap(x, 31 * DAY, 0);             // February 1
        snap(x, 365 * DAY - 1, 0);        // December 31
        snap(x, 365 * DAY + 30 * DAY, 0); // January 31 of 1971
        x.rule(1, 100);
        keeps(x, "DAYS 100", 2, 2, 0, 2, 2, 2, 2, 2, 2);
        x.rule(1, 5);
        keeps(x, "DAYS 5", 0, 0, 0, 0, 2, 2, 2, 2, 2);
        x.rule(1, 0);
        x.rule(2, 100);
        keeps(x, "WEEKS 100", 0, 4, 0, 0, 4, 0, 4, 4, 4);
        x.rule(2, 4);
        keeps(x, "WEEKS 4", 0, 0, 0, 0, 4, 0, 4, 4, 4);
        x.rule(2, 0);
        x.rule(3, 100);
        keeps(x, "MONTHS 100: January of two years", 0, 0, 0, 0, 0, 8, 8, 8, 8);
        x.rule(3, 1);
        keeps(x, "MONTHS 1", 0, 0, 0, 0, 0, 0, 0, 0, 8);
        x.rule(3, 0);
        x.rule(4, 100);
        keeps(x, "YEARS 100", 0, 0, 0, 0, 0, 0, 0, 16, 16);
        x.rule(4, 1);
        x.rule(0, 1);
        x.rule(1, 2);
        x.rule(2, 1);
        x.rule(3, 2);
        keeps(x, "all", 0, 0, 0, 0, 0, 0, 0, 2 + 8, 1 + 2 + 4 + 8 + 16);
        x.drop(8);
        keeps(x, "all, the latest gone", 0, 0, 0, 0, 0, 0, 2 + 8, 1 + 2 + 4 + 8 + 16);
    }

    private static void keepsBefore1970() {
        SafeSweeps x = new SafeSweeps(20);
        snap(x, -DAY - 1, 0);   // Tuesday, December 30 of 1969
        snap(x, -DAY, 0);       // Wednesday, December 31
        snap(x, -1, 0);
        snap(x, 0, 0);          // Thursday, January 1
        x.rule(1, 9);
        keeps(x, "DAYS around 0", 2, 0, 2, 2);
        x.rule(2, 9);
        keeps(x, "WEEKS around 0", 2, 0, 2, 6);
        x.rule(3, 9);
        keeps(x, "MONTHS around 0", 2, 0, 10, 14);
        x.rule(4, 9);
        keeps(x, "YEARS around 0", 2, 0, 26, 30);
    }

    private static void keepsTags() {
        SafeSweeps x = new SafeSweeps(20);
        for (int tag = 0; tag < 4; tag++) {
            snap(x, tag, tag);
        }
        for (int bits = 0; bits <= 15; bits++) {
            x.rule(5, bits);
            for (int tag = 0; tag < 4; tag++) {
                DUE.is("TAGS " + bits + " of " + tag, x.keeps(tag), (bits & 1 << tag) != 0 ? 32 : 0);
            }
        }
    }

    private static void prune() {
        SafeSweeps x = new SafeSweeps(20);
        DUE.is("prune: none there", x.prune(false), 0);
        for (int i = 0; i < 5; i++) {
            snap(x, i * DAY, i % 2);
        }
        int writes = x.count(8);
        DUE.is("prune: none kept", x.prune(false), SafeSweeps.STATE);
        DUE.is("prune: nothing went", x.count(3), 5);
        DUE.is("prune: nothing written", x.count(8), writes);
        x.rule(0, 1);
        x.rule(5, 2);
        DUE.is("prune", x.prune(false), 2);
        DUE.is("prune: a write each", x.count(8), writes + 2);
        keeps(x, "prune: those kept", SafeSweeps.UNKNOWN, 32, SafeSweeps.UNKNOWN, 32, 1);
        DUE.is("prune: all kept", x.prune(false), 0);
        DUE.is("prune: all kept, with word", x.prune(true), 0);
        x.rule(0, 0);
        x.rule(5, 0);
        DUE.is("prune: none kept again", x.prune(false), SafeSweeps.STATE);
        DUE.is("prune: with word", x.prune(true), 3);
        DUE.is("prune: none there again", x.prune(false), 0);
        DUE.is("prune: none there, with word", x.prune(true), 0);
    }

    private static void pruneOrder() {
        SafeSweeps x = new SafeSweeps(20);
        for (int i = 0; i < 5; i++) {
            snap(x, i, 0);
        }
        x.rule(0, 1);
        x.cut(2);
        DUE.is("prune loses power", x.prune(false), SafeSweeps.LOST);
        DUE.is("prune: two went", x.count(3), 3);
        DUE.is("the last in ORDER first: 0 went", x.snapshot(0, 0), SafeSweeps.UNKNOWN);
        DUE.is("then 1", x.snapshot(1, 0), SafeSweeps.UNKNOWN);
        DUE.is("2 stays", x.snapshot(2, 0), 0);
    }

    private static void told() {
        SafeSweeps x = new SafeSweeps(20);
        x.at(-5);
        x.begin(10);
        for (int i = 0; i < 8; i++) {
            x.save(0, 7 - i, 1);
        }
        x.take(0, 2);
        x.commit(0, 2);
        DUE.is("snapshot(0, 0)", x.snapshot(0, 0), 2);
        DUE.is("snapshot(0, 1)", x.snapshot(0, 1), 8);
        for (int i = 0; i < 8; i++) {
            DUE.is("snapshot(0, 2 + " + i + ")", x.snapshot(0, 2 + i), i);
        }
        DUE.is("snapshot(0, 10)", x.snapshot(0, 10), SafeSweeps.OUTSIDE);
        DUE.is("snapshot(0, -1)", x.snapshot(0, -1), SafeSweeps.OUTSIDE);
        DUE.is("snapshot(0, far)", x.snapshot(0, Integer.MAX_VALUE), SafeSweeps.OUTSIDE);
        DUE.is("snapshot(0, far below)", x.snapshot(0, Integer.MIN_VALUE), SafeSweeps.OUTSIDE);
        DUE.is("snapshot(1, -1)", x.snapshot(1, -1), SafeSweeps.UNKNOWN);
        DUE.is("snapshot(-1, 0)", x.snapshot(-1, 0), SafeSweeps.UNKNOWN);
        DUE.is("time(0)", x.time(0), -5);
        DUE.is("time(1)", x.time(1), 0);
        DUE.is("time(-1)", x.time(-1), 0);
        x.drop(0);
        DUE.is("snapshot(0, 0) gone", x.snapshot(0, 0), SafeSweeps.UNKNOWN);
        DUE.is("time(0) gone", x.time(0), 0);
    }
}
