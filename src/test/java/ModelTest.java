import java.util.Random;

/** Runs of calls drawn by lot, from seeds that are always the same, against the model: every answer and all that is told. */
public final class ModelTest {
    private static final int CALLS = 480;
    private static final Due DUE = new Due();

    private final Random lot;
    private final SafeSweeps real;
    private final Model model;
    private final String name;
    private final StringBuilder told = new StringBuilder();
    private final int powerCuts;
    private final int wildness;
    private final int keys;
    private final int sizes;
    private long now = -10_000_000_000L;

    private ModelTest(int seed) {
        lot = new Random(seed);
        int capacity = lot.nextInt(8) == 0 ? lot.nextInt(1200) - 50 : 20 + lot.nextInt(40);
        real = new SafeSweeps(capacity);
        model = new Model(capacity);
        name = "seed " + seed + " capacity " + capacity;
        powerCuts = lot.nextInt(3);
        wildness = 5 + lot.nextInt(40);
        keys = 1 + lot.nextInt(lot.nextBoolean() ? 6 : 60);
        sizes = 1 + lot.nextInt(24);
    }

    public static void main(String[] args) {
        int runs = args.length > 0 ? Integer.parseInt(args[0]) : 600;
        for (int seed = 0; seed < runs && !DUE.anyWrong(); seed++) {
            new ModelTest(seed).run();
        }
        DUE.end();
    }

    private void run() {
        for (int i = 0; i < CALLS && !DUE.anyWrong(); i++) {
            String call = one();
            told.append(call).append('\n');
            compareAll(name + " call " + i + " " + call);
        }
        if (DUE.anyWrong()) {
            System.out.println(name + ":\n" + told);
        }
    }

    private boolean wild() {
        return lot.nextInt(wildness) == 0;
    }

    private int odd() {
        int[] some = {-1, -2, 4, 5, 8, 40, 80, 101, 500, 501, 1000000, Integer.MIN_VALUE, Integer.MAX_VALUE};
        return some[lot.nextInt(some.length)];
    }

    private int below(int bound) {
        return wild() ? odd() : lot.nextInt(Math.max(1, bound));
    }

    private int aSaver() {
        return lot.nextInt(3) == 0 ? below(4) : below(2);
    }

    private int aBlock() {
        int made = real.count(0);
        return lot.nextInt(3) == 0 ? below(made) : made - 1 - below(8);
    }

    private String due(String call, long got, long want) {
        DUE.is(name + " " + call, got, want);
        return call + " = " + want;
    }

    private String one() {
        int pick = lot.nextInt(100);
        if (pick < 26) {
            int saver = aSaver(), size = wild() ? odd() : 1 + lot.nextInt(sizes);
            long key = lot.nextInt(keys);
            return due("save(" + saver + ", " + key + ", " + size + ")", real.save(saver, key, size), model.save(saver, key, size));
        }
        if (pick < 40) {
            int saver = aSaver(), block = aBlock();
            return due("child(" + saver + ", " + block + ")", real.child(saver, block), model.child(saver, block));
        }
        if (pick < 50) {
            int saver = aSaver(), block = aBlock();
            return due("take(" + saver + ", " + block + ")", real.take(saver, block), model.take(saver, block));
        }
        return pick < 75 ? saversAndSnapshots(pick) : sweepsAndPower(pick);
    }

    private String saversAndSnapshots(int pick) {
        if (pick < 57) {
            int lease = wild() ? odd() : 1 + lot.nextInt(lot.nextBoolean() ? 20 : 100000);
            return due("begin(" + lease + ")", real.begin(lease), model.begin(lease));
        }
        if (pick < 62) {
            int saver = aSaver(), tag = below(4);
            return due("commit(" + saver + ", " + tag + ")", real.commit(saver, tag), model.commit(saver, tag));
        }
        if (pick < 64) {
            int saver = aSaver();
            return due("give(" + saver + ")", real.give(saver), model.give(saver));
        }
        if (pick < 67) {
            int snapshot = below(40);
            return due("drop(" + snapshot + ")", real.drop(snapshot), model.drop(snapshot));
        }
        if (pick < 70) {
            long[] far = {3, 30, 86400, 700000, 3000000, 40000000};
            long t = wild() ? lot.nextLong() : now + (long) (lot.nextDouble() * far[lot.nextInt(far.length)]);
            int answer = model.at(t);
            now = answer == 1 ? t : now;
            return due("at(" + t + ")", real.at(t), answer);
        }
        if (pick < 73) {
            int kind = below(6), n = wild() ? odd() : lot.nextInt(kind == 5 ? 16 : 4);
            return due("rule(" + kind + ", " + n + ")", real.rule(kind, n), model.rule(kind, n));
        }
        boolean word = lot.nextBoolean();
        return due("prune(" + word + ")", real.prune(word), model.prune(word));
    }

    private String sweepsAndPower(int pick) {
        if (pick < 81) {
            return due("sweep()", real.sweep(), model.sweep());
        }
        if (pick < 92) {
            int n = wild() ? odd() : lot.nextInt(3) == 0 ? 500 : 1 + lot.nextInt(40);
            return due("step(" + n + ")", real.step(n), model.step(n));
        }
        if (pick < 94) {
            int percent = wild() ? odd() : lot.nextInt(101);
            return due("share(" + percent + ")", real.share(percent), model.share(percent));
        }
        if (pick < 96 && lot.nextInt(3) < powerCuts) {
            int n = wild() ? odd() : lot.nextInt(30) - 1;
            return due("cut(" + n + ")", real.cut(n), model.cut(n));
        }
        if (pick < 98) {
            return due("open()", real.open(), model.open());
        }
        int mirror = below(2), n = wild() ? odd() : lot.nextInt(30);
        return due("follow(" + mirror + ", " + n + ")", real.follow(mirror, n), model.follow(mirror, n));
    }

    private void compareAll(String when) {
        for (int what = -1; what <= 14; what++) {
            DUE.is(when + ": count(" + what + ")", real.count(what), model.count(what));
            DUE.is(when + ": swept(" + what + ")", real.swept(what), model.swept(what));
        }
        for (int block = -1; block <= real.count(0); block++) {
            for (int what = -1; what <= 12; what++) {
                DUE.is(when + ": block(" + block + ", " + what + ")", real.block(block, what), model.block(block, what));
            }
            DUE.is(when + ": key(" + block + ")", real.key(block), model.key(block));
        }
        for (int pack = -1; pack <= real.count(4); pack++) {
            for (int what = -1; what <= 4; what++) {
                DUE.is(when + ": pack(" + pack + ", " + what + ")", real.pack(pack, what), model.pack(pack, what));
            }
        }
        for (int snapshot = -1; snapshot <= 40; snapshot++) {
            for (int what = -1; what <= 10; what++) {
                DUE.is(when + ": snapshot(" + snapshot + ", " + what + ")", real.snapshot(snapshot, what), model.snapshot(snapshot, what));
            }
            DUE.is(when + ": time(" + snapshot + ")", real.time(snapshot), model.time(snapshot));
            DUE.is(when + ": keeps(" + snapshot + ")", real.keeps(snapshot), model.keeps(snapshot));
        }
        compareSaversAndMirrors(when);
        DUE.is(when + ": audit()", real.audit(), 0);
    }

    private void compareSaversAndMirrors(String when) {
        for (int saver = -1; saver <= 4; saver++) {
            for (int what = -1; what <= 11; what++) {
                DUE.is(when + ": saver(" + saver + ", " + what + ")", real.saver(saver, what), model.saver(saver, what));
            }
        }
        for (int mirror = -1; mirror <= 2; mirror++) {
            for (int what = -1; what <= 4; what++) {
                DUE.is(when + ": mirrored(" + mirror + ", " + what + ")", real.mirrored(mirror, what), model.mirrored(mirror, what));
            }
            for (int block = -1; block <= 81; block += lot.nextInt(20) + 1) {
                DUE.is(when + ": has(" + mirror + ", " + block + ")", real.has(mirror, block), model.has(mirror, block));
            }
        }
    }
}
