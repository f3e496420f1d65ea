import java.util.Random;
import java.util.function.IntPredicate;
import java.util.stream.IntStream;

/** Runs of calls drawn by lot, from seeds that are always the same, against the model: every answer and all that is told. */
public final class ModelTest {
    private static final int CALLS = 480;
    private static final Due DUE = new Due();
    // save, child, take, begin, commit, give; drop, at, rule, prune, follow; sweep, step, share, cut, open
    private static final int[] USUAL_WEIGHTS = {30, 12, 10, 8, 8, 2, 3, 3, 3, 1, 3, 8, 14, 1, 2, 8};

    private final Random lot;
    private final SafeSweeps real;
    private final Model model;
    private final String name;
    private final StringBuilder told = new StringBuilder();
    private final int[] weights;
    private final int wildness;
    private final int keys;
    private final int sizes;
    private long now = -10_000_000_000L;

    private ModelTest(int seed) {
        lot = new Random(seed);
        int capacity = lot.nextInt(8) == 0 ? lot.nextInt(1200) - 50 : 20 + lot.nextInt(40);
        real = new SafeSweeps(capacity);
        model = new Model(capacity);
        name = "seed " + seed + " capacity " + capacity;
        weights = USUAL_WEIGHTS.clone();
        for (int i = 0; i < weights.length; i++) {
            weights[i] = 1 + weights[i] * lot.nextInt(5);
        }
        wildness = 5 + lot.nextInt(60);
        keys = 1 + lot.nextInt(lot.nextBoolean() ? 6 : 60);
        sizes = 1 + lot.nextInt(24);
    }

    public static void main(String[] args) {
        int runs = args.length > 0 ? Integer.parseInt(args[0]) : 400;
        for (int seed = 0; seed < runs && !DUE.anyWrong(); seed++) {
            new ModelTest(seed).run();
        }
        DUE.end();
    }

    private void run() {
        for (int i = 0; i < CALLS && !DUE.anyWrong(); i++) {
            String call = one();
            told.append(call).append('\n');
            compareAll(name + " call " + i + " " + call);
        }
        if (DUE.anyWrong()) {
            System.out.println(name + ":\n" + told);
        }
    }

    private boolean wild() {
        return lot.nextInt(wildness) == 0;
    }

    private int odd() {
        int[] some = {-1, -2, 4, 5, 8, 40, 80, 101, 500, 501, 1000000, Integer.MIN_VALUE, Integer.MAX_VALUE};
        return some[lot.nextInt(some.length)];
    }

    private int below(int bound) {
        return wild() ? odd() : lot.nextInt(Math.max(1, bound));
    }

    /** One of the numbers below the bound that the model says this of, if there is one. */
    private int suchOne(int bound, IntPredicate such) {
        int[] some = IntStream.range(0, bound).filter(such).toArray();
        return wild() || some.length == 0 ? below(bound) : some[lot.nextInt(some.length)];
    }

    private int aSaver() {
        return suchOne(4, i -> model.saver(i, 0) == 0);
    }

    private int aSnapshot() {
        return suchOne(40, i -> model.snapshot(i, 0) >= 0);
    }

    private int aBlock(int saver) {
        int made = model.count(0);
        switch (lot.nextInt(4)) {
            case 0: return suchOne(made, i -> model.block(i, 4) > 0);
            case 1: return suchOne(made, i -> model.block(i, 0) == 1);
            case 2: return below(made);
            default: return wild() ? odd() : model.saver(saver, 3 + lot.nextInt(8));
        }
    }

    private int aUsedBlock(int saver) {
        int used = Math.max(1, model.saver(saver, 1));
        return lot.nextInt(6) == 0 ? aBlock(saver) : model.saver(saver, 3 + lot.nextInt(used));
    }

    private String due(String call, long got, long want) {
        DUE.is(name + " " + call, got, want);
        return call + " = " + want;
    }

    private String one() {
        // else most calls would be refused in most runs
        if (lot.nextInt(3) > 0 && model.count(13) == 1) {
            return sweepCall(15);
        }
        if (lot.nextInt(3) > 0 && model.count(6) == 0) {
            return saverCall(3);
        }
        int sum = 0;
        for (int weight : weights) {
            sum += weight;
        }
        int pick = lot.nextInt(sum);
        int kind = 0;
        while (pick >= weights[kind]) {
            pick -= weights[kind];
            kind++;
        }
        return kind < 6 ? saverCall(kind) : kind < 11 ? snapshotCall(kind) : sweepCall(kind);
    }

    private String saverCall(int kind) {
        int saver = aSaver();
        switch (kind) {
            case 0: {
                int size = wild() ? odd() : 1 + lot.nextInt(sizes);
                long key = lot.nextInt(keys);
                return due("save(" + saver + ", " + key + ", " + size + ")", real.save(saver, key, size), model.save(saver, key, size));
            }
            case 1: {
                int block = aUsedBlock(saver);
                return due("child(" + saver + ", " + block + ")", real.child(saver, block), model.child(saver, block));
            }
            case 2: {
                int block = aBlock(saver);
                return due("take(" + saver + ", " + block + ")", real.take(saver, block), model.take(saver, block));
            }
            case 3: {
                int lease = wild() ? odd() : 1 + lot.nextInt(lot.nextBoolean() ? 20 : 100000);
                return due("begin(" + lease + ")", real.begin(lease), model.begin(lease));
            }
            case 4: {
                int tag = below(4);
                return due("commit(" + saver + ", " + tag + ")", real.commit(saver, tag), model.commit(saver, tag));
            }
            default:
                return due("give(" + saver + ")", real.give(saver), model.give(saver));
        }
    }

    private String snapshotCall(int kind) {
        switch (kind) {
            case 6: {
                int snapshot = aSnapshot();
                return due("drop(" + snapshot + ")", real.drop(snapshot), model.drop(snapshot));
            }
            case 7: {
                long[] far = {3, 30, 86400, 700000, 3000000, 40000000};
                long t = wild() ? lot.nextLong() : now + (long) (lot.nextDouble() * far[lot.nextInt(far.length)]);
                int answer = model.at(t);
                now = answer == 1 ? t : now;
                return due("at(" + t + ")", real.at(t), answer);
            }
            case 8: {
                int rule = below(6), n = wild() ? odd() : lot.nextInt(rule == 5 ? 16 : 4);
                return due("rule(" + rule + ", " + n + ")", real.rule(rule, n), model.rule(rule, n));
            }
            case 9: {
                boolean word = lot.nextBoolean();
                return due("prune(" + word + ")", real.prune(word), model.prune(word));
            }
            default: {
                int mirror = below(2), n = wild() ? odd() : lot.nextInt(30);
                return due("follow(" + mirror + ", " + n + ")", real.follow(mirror, n), model.follow(mirror, n));
            }
        }
    }

    private String sweepCall(int kind) {
        switch (kind) {
            case 11:
                return due("sweep()", real.sweep(), model.sweep());
            case 12: {
                int n = wild() ? odd() : lot.nextInt(3) == 0 ? 500 : 1 + lot.nextInt(40);
                return due("step(" + n + ")", real.step(n), model.step(n));
            }
            case 13: {
                int percent = wild() ? odd() : lot.nextInt(101);
                return due("share(" + percent + ")", real.share(percent), model.share(percent));
            }
            case 14: {
                int n = wild() ? odd() : lot.nextInt(30) - 1;
                return due("cut(" + n + ")", real.cut(n), model.cut(n));
            }
            default:
                return due("open()", real.open(), model.open());
        }
    }

    private void compareAll(String when) {
        for (int what = -1; what <= 14; what++) {
            DUE.is(when + ": count(" + what + ")", real.count(what), model.count(what));
            DUE.is(when + ": swept(" + what + ")", real.swept(what), model.swept(what));
        }
        for (int block = -1; block <= real.count(0); block++) {
            for (int what = -1; what <= 12; what++) {
                DUE.is(when + ": block(" + block + ", " + what + ")", real.block(block, what), model.block(block, what));
            }
            DUE.is(when + ": key(" + block + ")", real.key(block), model.key(block));
        }
        for (int pack = -1; pack <= real.count(4); pack++) {
            for (int what = -1; what <= 4; what++) {
                DUE.is(when + ": pack(" + pack + ", " + what + ")", real.pack(pack, what), model.pack(pack, what));
            }
        }
        for (int snapshot = -1; snapshot <= 40; snapshot++) {
            for (int what = -1; what <= 10; what++) {
                DUE.is(when + ": snapshot(" + snapshot + ", " + what + ")", real.snapshot(snapshot, what), model.snapshot(snapshot, what));
            }
            DUE.is(when + ": time(" + snapshot + ")", real.time(snapshot), model.time(snapshot));
            DUE.is(when + ": keeps(" + snapshot + ")", real.keeps(snapshot), model.keeps(snapshot));
        }
        compareSaversAndMirrors(when);
        DUE.is(when + ": audit()", real.audit(), 0);
    }

    private void compareSaversAndMirrors(String when) {
        for (int saver = -1; saver <= 4; saver++) {
            for (int what = -1; what <= 11; what++) {
                DUE.is(when + ": saver(" + saver + ", " + what + ")", real.saver(saver, what), model.saver(saver, what));
            }
        }
        for (int mirror = -1; mirror <= 2; mirror++) {
            for (int what = -1; what <= 4; what++) {
                DUE.is(when + ": mirrored(" + mirror + ", " + what + ")", real.mirrored(mirror, what), model.mirrored(mirror, what));
            }
            for (int block = -1; block <= 81; block += lot.nextInt(20) + 1) {
                DUE.is(when + ": has(" + mirror + ", " + block + ")", real.has(mirror, block), model.has(mirror, block));
            }
        }
    }
}
