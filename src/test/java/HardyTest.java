import java.util.Random;

/** No call may throw or fail to end: arguments from the ends of their types, and far more calls than are promised. */
public final class HardyTest {
    private static final int[] ENDS = {Integer.MIN_VALUE, Integer.MIN_VALUE + 1, -1000, -107, -2, -1, 0, 1, 2, 3, 4, 5, 7, 8, 11,
        12, 15, 16, 20, 39, 40, 79, 80, 100, 101, 500, 501, 1000, 1000000, Integer.MAX_VALUE - 1, Integer.MAX_VALUE};
    private static final long[] TIMES = {Long.MIN_VALUE, -1000000000001L, -1000000000000L, -10000000000L, -86401, -1, 0, 1,
        86400, 999999999999L, 1000000000000L, 1000000000001L, Long.MAX_VALUE};

    private static final Due DUE = new Due();
    private final Random lot;
    private final SafeSweeps x;
    private long sum;

    private HardyTest(int seed) {
        lot = new Random(seed);
        x = new SafeSweeps(any());
    }

    public static void main(String[] args) {
        for (int seed = 0; seed < 40; seed++) {
            HardyTest test = new HardyTest(seed);
            for (int i = 0; i < 20000; i++) {
                test.change();
                test.ask();
            }
            DUE.is("audit, seed " + seed, test.x.audit(), 0);
            DUE.is("blocks, seed " + seed, test.x.count(0) <= 80, true);
            DUE.is("packs, seed " + seed, test.x.count(4) <= 40, true);
            test.takesWithoutEnd();
        }
        DUE.end();
    }

    private int any() {
        return ENDS[lot.nextInt(ENDS.length)];
    }

    private int few() {
        return lot.nextInt(8) == 0 ? any() : lot.nextInt(4);
    }

    private void change() {
        switch (lot.nextInt(17)) {
            case 0: sum += lot.nextInt(50) == 0 ? x.at(TIMES[lot.nextInt(TIMES.length - 4)]) : x.at(any()); break;
            case 1: sum += x.begin(any()); break;
            case 2: sum += x.child(few(), lot.nextInt(80)); break;
            case 3: sum += x.save(few(), lot.nextInt(30), lot.nextInt(25)); break;
            case 4: sum += x.take(few(), lot.nextInt(80)); break;
            case 5: sum += x.commit(few(), few()); break;
            case 6: sum += x.give(few()); break;
            case 7: sum += x.drop(lot.nextInt(40)); break;
            case 8: sum += x.rule(few(), any()); break;
            case 9: sum += x.prune(lot.nextBoolean()); break;
            case 10: sum += x.sweep(); break;
            case 11: sum += x.step(any()); break;
            case 12: sum += x.share(any()); break;
            case 13: sum += lot.nextInt(20) == 0 ? x.cut(any()) : 0; break;
            case 14: sum += x.open(); break;
            case 15: sum += x.follow(few(), any()); break;
            default: sum += x.save(any(), any(), any()) + x.child(any(), any()) + x.take(any(), any()) + x.drop(any()); break;
        }
    }

    private void ask() {
        sum += x.count(any()) + x.block(any(), any()) + x.block(lot.nextInt(80), any()) + x.key(any()) + x.pack(any(), any());
        sum += x.pack(lot.nextInt(40), any()) + x.snapshot(any(), any()) + x.snapshot(lot.nextInt(40), any()) + x.time(any());
        sum += x.saver(any(), any()) + x.saver(few(), any()) + x.swept(any()) + x.mirrored(few(), any()) + x.keeps(any());
        sum += x.calendar(TIMES[lot.nextInt(TIMES.length)], any()) + (x.has(any(), any()) ? 1 : 0) + (x.has(few(), any()) ? 1 : 0);
    }

    /** A row that nobody takes from, and that takes come behind for longer than promised. */
    private void takesWithoutEnd() {
        SafeSweeps y = new SafeSweeps(20);
        y.begin(1000000);
        y.save(0, 1, 1);
        y.sweep();
        for (int i = 0; i < 5000; i++) {
            sum += y.take(0, 0);
        }
        DUE.is("takes without end", y.take(0, 0), 0);
        for (int i = 0; i < 5000 && y.swept(0) > 0; i++) {
            sum += y.step(500);
        }
        DUE.is("the sweep ends", y.swept(0), 0);
    }
}
