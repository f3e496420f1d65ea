/** The example of README.md, call by call, and leases, rules and power as they are told below it there. */
public final class ReadmeTest {
    private static final Due DUE = new Due();

    public static void main(String[] args) {
        example();
        leases();
        rules();
        power();
        DUE.end();
    }

    private static void example() {
        SafeSweeps store = new SafeSweeps(100);
        int saver = store.begin(60);
        int leaf = store.save(saver, 7L, 10);
        DUE.is("child", store.child(saver, leaf), 1);
        int root = store.save(saver, 8L, 20);
        int snapshot = store.commit(saver, 0);
        DUE.is("roots", store.snapshot(snapshot, 1), 2);
        DUE.is("leaf is a root", store.snapshot(snapshot, 2), leaf);
        DUE.is("root is a root", store.snapshot(snapshot, 3), root);
        DUE.is("the saver is gone", store.count(6), 0);
        DUE.is("drop", store.drop(snapshot), 1);
        DUE.is("sweep 1", store.sweep(), 1);
        DUE.is("two blocks cleared, two chosen, a pack", store.step(500), 5);
        DUE.is("they wait", store.count(2), 2);
        DUE.is("sweep 2", store.sweep(), 2);
        DUE.is("the same steps", store.step(500), 5);
        DUE.is("they are freed", store.count(10), 2);
        DUE.is("follow", store.follow(0, 500), 0);
        DUE.is("nothing is left to the mirror", store.mirrored(0, 1) + store.mirrored(0, 2), 0);
    }

    private static void leases() {
        SafeSweeps x = new SafeSweeps(100);
        x.at(0);
        x.begin(60);
        x.begin(60);
        x.at(60);
        DUE.is("save", x.save(0, 7L, 10), 0);
        DUE.is("the same again", x.save(0, 7L, 10), 0);
        x.at(61);
        DUE.is("renewed", x.saver(0, 0), 0);
        DUE.is("dead", x.saver(1, 0), 1);
        x.sweep();
        DUE.is("alive ones stay", x.count(6), 1);
        DUE.is("dead ones are gone", x.saver(1, 0), SafeSweeps.UNKNOWN);
    }

    private static void rules() {
        SafeSweeps x = new SafeSweeps(100);
        for (int i = 0; i < 3; i++) {
            x.begin(60);
            x.save(0, i, 10);
            x.commit(0, 0);
        }
        DUE.is("not all without the word", x.prune(false), SafeSweeps.STATE);
        x.rule(0, 1);
        DUE.is("the last is kept", x.keeps(2), 1);
        DUE.is("the others go", x.prune(false), 2);
        x.rule(0, 0);
        DUE.is("all with the word", x.prune(true), 1);
    }

    private static void power() {
        SafeSweeps x = new SafeSweeps(100);
        x.begin(60);
        x.cut(0);
        DUE.is("power goes", x.save(0, 7L, 10), SafeSweeps.LOST);
        DUE.is("down", x.begin(60), SafeSweeps.DOWN);
        DUE.is("it is told", x.count(13), 1);
        DUE.is("open", x.open(), 0);
        DUE.is("up again", x.begin(60), 0);
    }
}
