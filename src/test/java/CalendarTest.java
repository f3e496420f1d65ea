import java.time.LocalDate;

/** Promise 27: calendar, beside Java's own. */
public final class CalendarTest {
    private static final Due DUE = new Due();
    private static final long END = 1000000000000L;
    private static SafeSweeps x;
    private static int compared;

    public static void main(String[] args) {
        for (long day = -800000; day <= 800000; day += 1) {
            compare(day * 86400 + Math.floorMod(day * 7919, 86400L));
        }
        for (long t = -END; t <= END; t += 86400L * 97 + 13) {
            compare(t);
        }
        for (long year = -29700; year <= 33600; year++) {
            long newYear = LocalDate.of((int) year, 1, 1).toEpochDay() * 86400;
            compare(newYear);
            compare(newYear - 1);
            long march = LocalDate.of((int) year, 3, 1).toEpochDay() * 86400;
            compare(march);
            compare(march - 1);
        }
        compare(-END);
        compare(END);
        outside(new SafeSweeps(20));
        DUE.end();
    }

    private static void compare(long t) {
        // an object is promised to answer 512 calls
        x = compared % 100 == 0 ? new SafeSweeps(20) : x;
        compared++;
        LocalDate date = LocalDate.ofEpochDay(Math.floorDiv(t, 86400L));
        DUE.is("year of " + t, x.calendar(t, 0), date.getYear());
        DUE.is("month of " + t, x.calendar(t, 1), date.getMonthValue());
        DUE.is("day of " + t, x.calendar(t, 2), date.getDayOfMonth());
        DUE.is("day of the week of " + t, x.calendar(t, 3), date.getDayOfWeek().getValue() - 1);
        DUE.is("day's number of " + t, x.calendar(t, 4), date.toEpochDay());
    }

    private static void outside(SafeSweeps x) {
        long[] times = {-END - 1, END + 1, Long.MIN_VALUE, Long.MAX_VALUE};
        for (long t : times) {
            for (int what = -1; what <= 5; what++) {
                DUE.is("calendar(" + t + ", " + what + ")", x.calendar(t, what), SafeSweeps.OUTSIDE);
            }
        }
        int[] whats = {-1, 5, Integer.MIN_VALUE, Integer.MAX_VALUE};
        for (int what : whats) {
            DUE.is("calendar(0, " + what + ")", x.calendar(0, what), SafeSweeps.OUTSIDE);
        }
        long year = LocalDate.of(-102, 6, 1).toEpochDay() * 86400;
        DUE.is("a year equal to OUTSIDE", x.calendar(year, 0), -102);
        DUE.is("and its month", x.calendar(year, 1), 6);
    }
}
