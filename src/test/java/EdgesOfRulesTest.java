/** Part 5, sentence by sentence: rules, what they keep, the calendar; promises 9 to 12 and 27. */
public final class EdgesOfRulesTest {
    private static final Due DUE = new Due();
    private static final long DAY = 86400;
    private static final long END = 1000000000000L;

    public static void main(String[] args) {
        rulesAtTheirEdges();
        numbersAtFirst();
        lastKeepsTheFirst();
        lastOfThoseThatAreThere();
        daysAtTheirEdges();
        daysBeforeDay0();
        weeksFromMondayOn();
        monthsOfTheirYears();
        monthsOverLeapDays();
        yearsAtTheirEdges();
        fewerThanNWereKept();
        keptOnesBeforeIt();
        tagsByBits();
        keepsIsASum();
        keepsOfNone();
        dropAtItsEdges();
        pruneOfNone();
        pruneOfAll();
        pruneOfSome();
        pruneLastOnesFirst();
        day0();
        secondsOfADay();
        leapYears();
        yearsBeforeYear1();
        daysOfTheWeek();
        timesAtTheirEdges();
        yearEqualToOutside();
        DUE.end();
    }

    /** A snapshot at each of the times, with tags 0, 1, 2, 3, 0, .. */
    private static SafeSweeps snapshots(long... times) {
        SafeSweeps x = new SafeSweeps(20);
        for (int i = 0; i < times.length; i++) {
            DUE.is("at(" + times[i] + ")", x.at(times[i]), 1);
            x.begin(10);
            x.save(0, 1, 1);
            DUE.is("commit " + i, x.commit(0, i % 4), i);
        }
        return x;
    }

    private static void keeps(SafeSweeps x, String when, int... due) {
        for (int i = 0; i < due.length; i++) {
            DUE.is(when + ": keeps(" + i + ")", x.keeps(i), due[i]);
        }
    }

    // "0 LAST, 1 DAYS, 2 WEEKS, 3 MONTHS, 4 YEARS (0 .. 100), 5 TAGS (0 .. 15)"; rule(): "OUTSIDE (kind; n)"
    private static void rulesAtTheirEdges() {
        SafeSweeps x = new SafeSweeps(20);
        DUE.is("kind -1", x.rule(-1, 0), SafeSweeps.OUTSIDE);
        DUE.is("kind 6", x.rule(6, 0), SafeSweeps.OUTSIDE);
        for (int kind = 0; kind < 6; kind++) {
            int most = kind == 5 ? 15 : 100;
            DUE.is("n -1, kind " + kind, x.rule(kind, -1), SafeSweeps.OUTSIDE);
            DUE.is("n too great, kind " + kind, x.rule(kind, most + 1), SafeSweeps.OUTSIDE);
            DUE.is("the greatest, kind " + kind, x.rule(kind, most), 0);
            DUE.is("the least, kind " + kind, x.rule(kind, 0), most);
            DUE.is("what it was, kind " + kind, x.rule(kind, 7), 0);
            DUE.is("the same again, kind " + kind, x.rule(kind, 7), 7);
        }
    }

    // "each with a number, 0 at first"
    private static void numbersAtFirst() {
        SafeSweeps x = snapshots(0, 1, DAY);
        keeps(x, "no rule", 0, 0, 0);
        for (int kind = 0; kind < 6; kind++) {
            DUE.is("rule " + kind, x.rule(kind, 0), 0);
        }
    }

    // "LAST n keeps the first n" of "ORDER: the greatest number (which has the latest TIME) first"
    private static void lastKeepsTheFirst() {
        SafeSweeps x = snapshots(5, 5, 5, 6);
        for (int n = 0; n <= 5; n++) {
            x.rule(0, n);
            for (int i = 0; i < 4; i++) {
                DUE.is("LAST " + n + ": " + i, x.keeps(i), i >= 4 - n ? 1 : 0);
            }
        }
        x.rule(0, 100);
        keeps(x, "LAST 100", 1, 1, 1, 1);
    }

    // "Snapshots that are there stand in ORDER"
    private static void lastOfThoseThatAreThere() {
        SafeSweeps x = snapshots(0, 1, 2, 3, 4);
        x.rule(0, 2);
        keeps(x, "LAST 2", 0, 0, 0, 1, 1);
        x.drop(4);
        x.drop(2);
        keeps(x, "the gone ones do not count", 0, 1, SafeSweeps.UNKNOWN, 1, SafeSweeps.UNKNOWN);
        SafeSweeps y = snapshots(0, DAY, 2 * DAY);
        y.rule(1, 2);
        keeps(y, "DAYS 2", 0, 2, 2);
        y.drop(1);
        keeps(y, "the gone one does not count", 2, SafeSweeps.UNKNOWN, 2);
    }

    // "each one whose day is another one than that of the one before it that DAYS kept, is kept"
    private static void daysAtTheirEdges() {
        SafeSweeps x = snapshots(0, DAY - 1, DAY, 2 * DAY - 1, 2 * DAY);
        x.rule(1, 100);
        keeps(x, "the latest of each day", 0, 2, 0, 2, 2);
        SafeSweeps y = snapshots(3 * DAY, 3 * DAY, 3 * DAY);
        y.rule(1, 100);
        keeps(y, "three at one second", 0, 0, 2);
    }

    private static void daysBeforeDay0() {
        SafeSweeps x = snapshots(-2 * DAY, -DAY - 1, -DAY, -1, 0, DAY - 1);
        x.rule(1, 100);
        keeps(x, "days around second 0", 0, 2, 0, 2, 0, 2);
    }

    // "so WEEKS (from Monday on)"
    private static void weeksFromMondayOn() {
        SafeSweeps x = snapshots(4 * DAY - 1, 4 * DAY, 11 * DAY - 1, 11 * DAY);
        x.rule(2, 100);
        keeps(x, "Sunday, Monday, Sunday, Monday", 4, 0, 4, 4);
        SafeSweeps y = snapshots(-3 * DAY - 1, -3 * DAY, -1, 0, 4 * DAY - 1);
        y.rule(2, 100);
        keeps(y, "the week of day 0 begins at day -3", 4, 0, 0, 0, 4);
        SafeSweeps z = snapshots(362 * DAY, 365 * DAY);
        z.rule(2, 100);
        keeps(z, "a week may have days of two years", 0, 4);
    }

    // "MONTHS (of their years)"
    private static void monthsOfTheirYears() {
        SafeSweeps x = snapshots(0, 31 * DAY - 1, 31 * DAY, 365 * DAY, 396 * DAY - 1, 396 * DAY);
        x.rule(3, 100);
        keeps(x, "January, January, February, and again", 0, 8, 8, 0, 8, 8);
        SafeSweeps y = snapshots(10 * DAY, 375 * DAY);
        y.rule(3, 100);
        keeps(y, "the same month of another year", 8, 8);
        SafeSweeps z = snapshots(-31 * DAY - 1, -31 * DAY, -1, 0);
        z.rule(3, 100);
        keeps(z, "November, December, December of 1969, January", 8, 0, 8, 8);
    }

    private static void monthsOverLeapDays() {
        long february29 = 789 * DAY;
        SafeSweeps x = snapshots(february29 - 1, february29, february29 + DAY - 1, february29 + DAY);
        DUE.is("it is the 29th", x.calendar(february29, 2), 29);
        x.rule(3, 100);
        keeps(x, "1972: February 28, 29, 29, March 1", 0, 0, 8, 8);
        long march1 = 424 * DAY;
        SafeSweeps y = snapshots(march1 - 1, march1);
        DUE.is("it is the first", y.calendar(march1, 2), 1);
        y.rule(3, 100);
        keeps(y, "1971: February 28, March 1", 8, 8);
    }

    // "YEARS"
    private static void yearsAtTheirEdges() {
        SafeSweeps x = snapshots(-365 * DAY - 1, -365 * DAY, -1, 0, 365 * DAY - 1, 365 * DAY);
        x.rule(4, 100);
        keeps(x, "1968, 1969, 1969, 1970, 1970, 1971", 16, 0, 16, 0, 16, 16);
        SafeSweeps y = snapshots(730 * DAY, 1096 * DAY - 1, 1096 * DAY);
        y.rule(4, 100);
        keeps(y, "1972 has 366 days", 0, 16, 16);
    }

    // "as long as fewer than n were"
    private static void fewerThanNWereKept() {
        long[] steps = {DAY, 7 * DAY, 31 * DAY, 366 * DAY};
        for (int kind = 1; kind <= 4; kind++) {
            long apart = steps[kind - 1];
            SafeSweeps x = snapshots(0, 1, apart, apart + 1, 2 * apart, 2 * apart + 1);
            for (int n = 0; n <= 4; n++) {
                x.rule(kind, n);
                int bit = 1 << kind;
                keeps(x, "kind " + kind + ", " + n, 0, n > 2 ? bit : 0, 0, n > 1 ? bit : 0, 0, n > 0 ? bit : 0);
            }
        }
    }

    // ".. than that of the one before it that DAYS kept": each rule looks at what it kept itself
    private static void keptOnesBeforeIt() {
        SafeSweeps x = snapshots(0, DAY, DAY + 1, DAY + 2);
        x.rule(0, 2);
        x.rule(1, 2);
        keeps(x, "LAST 2, DAYS 2", 2, 0, 1, 3);
        x.rule(1, 1);
        keeps(x, "LAST 2, DAYS 1", 0, 0, 1, 3);
    }

    // "TAGS keeps those whose tag's bit (1 for tag 0, 2, 4, 8) is set"
    private static void tagsByBits() {
        SafeSweeps x = snapshots(0, 0, 0, 0);
        for (int bits = 0; bits < 16; bits++) {
            x.rule(5, bits);
            keeps(x, "TAGS " + bits, 32 * (bits & 1), 32 * (bits / 2 & 1), 32 * (bits / 4 & 1), 32 * (bits / 8));
        }
    }

    // keeps(): "the sum of 1 for LAST, 2, 4, 8, 16, 32"
    private static void keepsIsASum() {
        SafeSweeps x = snapshots(0);
        int sum = 0;
        for (int kind = 0; kind < 6; kind++) {
            x.rule(kind, 1);
            sum += 1 << kind;
            DUE.is("rules up to " + kind, x.keeps(0), sum);
        }
        for (int kind = 0; kind < 6; kind++) {
            x.rule(kind, 0);
            DUE.is("all but " + kind, x.keeps(0), 63 - (1 << kind));
            x.rule(kind, 1);
        }
    }

    private static void keepsOfNone() {
        SafeSweeps x = snapshots(0, 1);
        x.rule(0, 100);
        DUE.is("keeps(-1)", x.keeps(-1), SafeSweeps.UNKNOWN);
        DUE.is("keeps(0)", x.keeps(0), 1);
        DUE.is("keeps(1)", x.keeps(1), 1);
        DUE.is("keeps(2)", x.keeps(2), SafeSweeps.UNKNOWN);
        x.drop(1);
        DUE.is("keeps of one that went", x.keeps(1), SafeSweeps.UNKNOWN);
    }

    // drop(): "A snapshot goes (W): 1. .. UNKNOWN"
    private static void dropAtItsEdges() {
        SafeSweeps x = snapshots(0, 1, 2);
        DUE.is("drop(-1)", x.drop(-1), SafeSweeps.UNKNOWN);
        DUE.is("drop(3)", x.drop(3), SafeSweeps.UNKNOWN);
        DUE.is("drop(2)", x.drop(2), 1);
        DUE.is("drop(0)", x.drop(0), 1);
        DUE.is("drop(0) again", x.drop(0), SafeSweeps.UNKNOWN);
        DUE.is("one is left", x.count(3), 1);
        DUE.is("it is 1", x.snapshot(1, 0), 1);
    }

    // prune(): "STATE (there are some, none would be kept, and word is false)"
    private static void pruneOfNone() {
        SafeSweeps x = new SafeSweeps(20);
        DUE.is("none there, false", x.prune(false), 0);
        DUE.is("none there, true", x.prune(true), 0);
        SafeSweeps y = snapshots(0);
        y.drop(0);
        DUE.is("none there any more", y.prune(false), 0);
    }

    private static void pruneOfAll() {
        SafeSweeps x = snapshots(0, 1);
        DUE.is("none would be kept, false", x.prune(false), SafeSweeps.STATE);
        DUE.is("both are there", x.count(3), 2);
        DUE.is("none would be kept, true", x.prune(true), 2);
        DUE.is("none is there", x.count(3), 0);
        SafeSweeps y = snapshots(0);
        DUE.is("one alone, false", y.prune(false), SafeSweeps.STATE);
        y.rule(5, 14);
        DUE.is("a rule that keeps none", y.prune(false), SafeSweeps.STATE);
        y.rule(5, 1);
        DUE.is("one that keeps it", y.prune(false), 0);
    }

    private static void pruneOfSome() {
        for (int word = 0; word < 2; word++) {
            SafeSweeps x = snapshots(0, DAY, DAY + 1, 2 * DAY);
            int writes = x.count(8);
            x.rule(1, 2);
            DUE.is("two go", x.prune(word == 1), 2);
            DUE.is("a write each", x.count(8), writes + 2);
            keeps(x, "two stay", SafeSweeps.UNKNOWN, SafeSweeps.UNKNOWN, 2, 2);
            DUE.is("none goes then", x.prune(word == 1), 0);
            x.rule(1, 1);
            DUE.is("one goes", x.prune(word == 1), 1);
            DUE.is("the latest stays", x.keeps(3), 2);
        }
    }

    // "(W, each; the last ones in ORDER first)"
    private static void pruneLastOnesFirst() {
        for (int n = 0; n <= 3; n++) {
            SafeSweeps x = snapshots(0, 1, 2, 3, 4);
            x.rule(5, 1 << 1);
            x.rule(0, 1);
            x.cut(n);
            DUE.is("cut " + n, x.prune(false), n < 3 ? SafeSweeps.LOST : 3);
            int[] going = {0, 2, 3};
            for (int i = 0; i < 3; i++) {
                DUE.is("cut " + n + ": whether " + going[i] + " is there", x.snapshot(going[i], 0) >= 0, i >= n);
            }
            DUE.is("cut " + n + ": 1 and 4 stay", x.snapshot(1, 0) + x.snapshot(4, 0), 1);
        }
    }

    private static void date(long t, int... due) {
        SafeSweeps x = new SafeSweeps(20);
        for (int what = 0; what < due.length; what++) {
            DUE.is("calendar(" + t + ", " + what + ")", x.calendar(t, what), due[what]);
        }
    }

    // "DAY 0 has the seconds 0 .. 86399 and is Thursday, January 1 of 1970"
    private static void day0() {
        date(0, 1970, 1, 1, 3, 0);
        date(86399, 1970, 1, 1, 3, 0);
        date(86400, 1970, 1, 2, 4, 1);
        date(-1, 1969, 12, 31, 2, -1);
    }

    private static void secondsOfADay() {
        for (long day : new long[] {-11574074, -719529, -719528, -1, 0, 1, 59, 365, 11016, 11574073}) {
            SafeSweeps x = new SafeSweeps(20);
            DUE.is("the first second of day " + day, x.calendar(day * DAY, 4), day);
            DUE.is("the last second of day " + day, x.calendar(day * DAY + DAY - 1, 4), day);
            DUE.is("the second before day " + day, x.calendar(day * DAY - 1, 4), day - 1);
            DUE.is("the second behind day " + day, x.calendar(day * DAY + DAY, 4), day + 1);
        }
    }

    /** The first day of a year, by the document's words alone: years counted one by one. */
    private static long firstDayOf(int year) {
        long day = 0;
        for (int i = 1970; i < year; i++) {
            day += isLong(i) ? 366 : 365;
        }
        for (int i = 1969; i >= year; i--) {
            day -= isLong(i) ? 366 : 365;
        }
        return day;
    }

    private static boolean isLong(int year) {
        return year % 4 == 0 && (year % 100 != 0 || year % 400 == 0);
    }

    // "years have 365 days, those 366 that 4 divides, but not those that 100 divides and 400 does not"
    private static void leapYears() {
        int[] years = {1971, 1972, 1973, 1600, 1700, 1800, 1900, 1904, 1996, 2000, 2001, 2100, 2200, 2300, 2400, 3000, 4000, 33600};
        for (int year : years) {
            long first = firstDayOf(year);
            int length = isLong(year) ? 366 : 365;
            date(first * DAY, year, 1, 1, (int) Math.floorMod(first + 3, 7L), (int) first);
            date((first + length) * DAY - 1, year, 12, 31, (int) Math.floorMod(first + length + 2, 7L), (int) first + length - 1);
            date((first + length) * DAY, year + 1, 1, 1);
            date((first + 58) * DAY, year, 2, 28);
            date((first + 59) * DAY, year, isLong(year) ? 2 : 3, isLong(year) ? 29 : 1);
            date((first + length - 307) * DAY, year, 2, isLong(year) ? 29 : 28);
            date((first + length - 306) * DAY, year, 3, 1);
            monthsOf(year, first);
        }
    }

    private static void monthsOf(int year, long first) {
        int[] days = {31, isLong(year) ? 29 : 28, 31, 30, 31, 30, 31, 31, 30, 31, 30, 31};
        long day = first;
        for (int month = 1; month <= 12; month++) {
            date(day * DAY, year, month, 1);
            day += days[month - 1];
            date(day * DAY - 1, year, month, days[month - 1]);
        }
    }

    // "so for days before, too (year 0 is before year 1)"
    private static void yearsBeforeYear1() {
        for (int year : new int[] {1, 0, -1, -3, -4, -5, -99, -100, -101, -102, -399, -400, -401, -1000, -29600}) {
            long first = firstDayOf(year);
            int length = isLong(year) ? 366 : 365;
            date(first * DAY, year, 1, 1);
            date(first * DAY - 1, year - 1, 12, 31);
            date((first + length) * DAY - 1, year, 12, 31);
            date((first + length) * DAY, year + 1, 1, 1);
            monthsOf(year, first);
        }
    }

    // "the day of the week (0 Monday)"
    private static void daysOfTheWeek() {
        for (int day = -10; day <= 10; day++) {
            DUE.is("day " + day, new SafeSweeps(20).calendar(day * DAY, 3), (day + 10 + 7) % 7);
        }
    }

    // calendar(): "OUTSIDE (what; t below -1000000000000, above 1000000000000)"
    private static void timesAtTheirEdges() {
        SafeSweeps x = new SafeSweeps(20);
        for (int what = 0; what < 5; what++) {
            DUE.is("below the least", x.calendar(-END - 1, what), SafeSweeps.OUTSIDE);
            DUE.is("above the greatest", x.calendar(END + 1, what), SafeSweeps.OUTSIDE);
            DUE.is("the least long", x.calendar(Long.MIN_VALUE, what), SafeSweeps.OUTSIDE);
            DUE.is("the greatest long", x.calendar(Long.MAX_VALUE, what), SafeSweeps.OUTSIDE);
        }
        date(-END, -29719, 4, 5, 1, -11574075);
        date(END, 33658, 9, 27, 4, 11574074);
        DUE.is("what -1", x.calendar(0, -1), SafeSweeps.OUTSIDE);
        DUE.is("what 5", x.calendar(0, 5), SafeSweeps.OUTSIDE);
        DUE.is("both", x.calendar(END + 1, 5), SafeSweeps.OUTSIDE);
        DUE.is("it does not depend on NOW", x.at(END) + x.calendar(0, 0), 1971);
    }

    // "(A year may be equal to OUTSIDE.)"
    private static void yearEqualToOutside() {
        long first = firstDayOf(-102);
        date(first * DAY, -102, 1, 1);
        date(first * DAY - 1, -103, 12, 31);
        date(firstDayOf(-101) * DAY, -101, 1, 1);
    }
}
