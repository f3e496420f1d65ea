import java.util.Arrays;

/**
 * A store of blocks that savers fill and a sweeper empties, as the document promises it.
 *
 * <p>What power can take away in the midst of a call is changed only behind {@link Journal#write},
 * so that a call which loses power leaves just what its done writes left.
 */
public final class SafeSweeps {
    public static final int NONE = -1, UNKNOWN = -101, OUTSIDE = -102, STATE = -103, ROOM = -104, LOST = -105, DOWN = -106;

    private static final int MOST_BLOCKS = 80;
    private static final int MOST_CHILDREN = 4;
    private static final int MOST_PACKS = 40;
    private static final int MOST_SNAPSHOTS = 40;
    private static final int MOST_SNAPSHOTS_THERE = 10;
    private static final int MOST_SAVERS = 4;
    private static final int MOST_USED = 8;
    private static final int MIRRORS = 2;
    private static final int KINDS_OF_RULES = 6;

    private static final int LEAST_CAPACITY = 20;
    private static final int GREATEST_CAPACITY = 1000;
    private static final int LONGEST_LEASE = 1000000;
    private static final int GREATEST_TAG = 3;
    private static final int GREATEST_NUMBER = 500;
    private static final long FIRST_NOW = -10000000000L;
    private static final long FARTHEST_TIME = 1000000000000L;

    private final Journal journal;
    private final Store store;
    private final Sweep sweeper;
    private final Rules rules;
    private final Saver[] savers;
    private final Snapshot[] snapshots;
    private final Mirror[] mirrors;
    private final Mirror replayed;
    private int snapshotsMade;
    private long now;

    public SafeSweeps(int capacity) {
        journal = new Journal();
        store = new Store(Math.max(LEAST_CAPACITY, Math.min(GREATEST_CAPACITY, capacity)), journal);
        sweeper = new Sweep(store, journal);
        rules = new Rules();
        savers = new Saver[MOST_SAVERS];
        for (int i = 0; i < MOST_SAVERS; i++) {
            savers[i] = new Saver();
        }
        snapshots = new Snapshot[MOST_SNAPSHOTS];
        mirrors = new Mirror[MIRRORS];
        for (int i = 0; i < MIRRORS; i++) {
            mirrors[i] = new Mirror();
        }
        replayed = new Mirror();
        now = FIRST_NOW;
    }

    // ---- time and savers

    public int at(long t) {
        if (journal.down) {
            return DOWN;
        }
        if (t < now || t > FARTHEST_TIME) {
            return OUTSIDE;
        }
        now = t;
        return 1;
    }

    public int begin(int lease) {
        if (journal.down) {
            return DOWN;
        }
        if (lease < 1 || lease > LONGEST_LEASE) {
            return OUTSIDE;
        }
        for (int i = 0; i < MOST_SAVERS; i++) {
            if (!savers[i].here) {
                savers[i].arrive(lease, now);
                return i;
            }
        }
        return ROOM;
    }

    public int child(int saver, int block) {
        if (journal.down) {
            return DOWN;
        }
        Saver one = renewed(saver);
        if (one == null || !store.holds(block)) {
            return UNKNOWN;
        }
        if (one.isDead(now) || !one.uses(block)) {
            return STATE;
        }
        return one.addChild(block) ? one.childCount : ROOM;
    }

    public int save(int saver, long key, int size) {
        if (journal.down) {
            return DOWN;
        }
        Saver one = renewed(saver);
        if (one == null) {
            return UNKNOWN;
        }
        if (size < 1 || size > store.capacity) {
            return OUTSIDE;
        }
        if (one.isDead(now)) {
            return STATE;
        }
        int found = store.find(key, size, one.children, one.childCount);
        return found == NONE ? saveNew(one, key, size) : saveFound(one, found);
    }

    private int saveNew(Saver one, long key, int size) {
        if (one.usedCount >= MOST_USED || !store.hasRoomFor(size)) {
            return ROOM;
        }
        int made = store.add(key, size, Arrays.copyOf(one.children, one.childCount));
        if (made == LOST) {
            return losePower();
        }
        one.use(made);
        one.childCount = 0;
        return made;
    }

    private int saveFound(Saver one, int found) {
        if (!one.canUse(found)) {
            return ROOM;
        }
        if (takeFor(one, found) == LOST) {
            return LOST;
        }
        one.childCount = 0;
        return found;
    }

    public int take(int saver, int block) {
        if (journal.down) {
            return DOWN;
        }
        Saver one = renewed(saver);
        if (one == null || !store.holds(block)) {
            return UNKNOWN;
        }
        if (one.isDead(now)) {
            return STATE;
        }
        return one.canUse(block) ? takeFor(one, block) : ROOM;
    }

    private int takeFor(Saver one, int block) {
        store.reachNothing();
        store.startFrom(block);
        store.reachOn();
        int revived = store.reviveReached();
        if (revived == LOST) {
            return losePower();
        }
        sweeper.spareReached(block);
        one.use(block);
        return revived;
    }

    public int commit(int saver, int tag) {
        if (journal.down) {
            return DOWN;
        }
        Saver one = saverHere(saver);
        if (one == null) {
            return UNKNOWN;
        }
        if (tag < 0 || tag > GREATEST_TAG) {
            return OUTSIDE;
        }
        if (one.isDead(now) || one.usedCount == 0) {
            return STATE;
        }
        if (snapshotsMade >= MOST_SNAPSHOTS || snapshotsThere() >= MOST_SNAPSHOTS_THERE) {
            return ROOM;
        }
        int made = snapshotsMade;
        if (!journal.write(Journal.SNAPSHOT_CAME, made)) {
            return losePower();
        }
        snapshots[made] = new Snapshot(now, tag, Arrays.copyOf(one.used, one.usedCount));
        snapshotsMade++;
        one.here = false;
        return made;
    }

    public int give(int saver) {
        if (journal.down) {
            return DOWN;
        }
        Saver one = saverHere(saver);
        if (one == null) {
            return UNKNOWN;
        }
        one.here = false;
        return one.usedCount;
    }

    private Saver saverHere(int saver) {
        boolean known = saver >= 0 && saver < MOST_SAVERS && savers[saver].here;
        return known ? savers[saver] : null;
    }

    /** The saver that a call names; its lease begins anew even if the call is refused later on. */
    private Saver renewed(int saver) {
        Saver one = saverHere(saver);
        if (one != null && !one.isDead(now)) {
            one.renew(now);
        }
        return one;
    }

    private int saversHere() {
        int here = 0;
        for (int i = 0; i < MOST_SAVERS; i++) {
            here += savers[i].here ? 1 : 0;
        }
        return here;
    }

    private int saversThatUse(int block) {
        int using = 0;
        for (int i = 0; i < MOST_SAVERS; i++) {
            using += savers[i].here && savers[i].uses(block) ? 1 : 0;
        }
        return using;
    }

    // ---- snapshots and rules

    public int drop(int snapshot) {
        if (journal.down) {
            return DOWN;
        }
        if (!snapshotIsThere(snapshot)) {
            return UNKNOWN;
        }
        return removeSnapshot(snapshot) ? 1 : losePower();
    }

    public int rule(int kind, int n) {
        if (journal.down) {
            return DOWN;
        }
        if (kind < 0 || kind >= KINDS_OF_RULES || n < 0 || n > Rules.greatest(kind)) {
            return OUTSIDE;
        }
        int before = rules.numbers[kind];
        rules.numbers[kind] = n;
        return before;
    }

    public int keeps(int snapshot) {
        if (journal.down) {
            return DOWN;
        }
        if (!snapshotIsThere(snapshot)) {
            return UNKNOWN;
        }
        rules.judge(snapshots, snapshotsMade);
        return rules.kept[snapshot];
    }

    public int prune(boolean word) {
        if (journal.down) {
            return DOWN;
        }
        int there = snapshotsThere();
        rules.judge(snapshots, snapshotsMade);
        int unkept = 0;
        for (int i = 0; i < snapshotsMade; i++) {
            unkept += snapshotIsUnkept(i) ? 1 : 0;
        }
        if (there > 0 && unkept == there && !word) {
            return STATE;
        }
        for (int i = 0; i < snapshotsMade; i++) {
            if (snapshotIsUnkept(i) && !removeSnapshot(i)) {
                return losePower();
            }
        }
        return unkept;
    }

    private boolean snapshotIsThere(int snapshot) {
        return snapshot >= 0 && snapshot < snapshotsMade && !snapshots[snapshot].gone;
    }

    private boolean snapshotIsUnkept(int snapshot) {
        return !snapshots[snapshot].gone && rules.kept[snapshot] == 0;
    }

    private int snapshotsThere() {
        int there = 0;
        for (int i = 0; i < snapshotsMade; i++) {
            there += snapshots[i].gone ? 0 : 1;
        }
        return there;
    }

    private boolean removeSnapshot(int snapshot) {
        if (!journal.write(Journal.SNAPSHOT_WENT, snapshot)) {
            return false;
        }
        snapshots[snapshot].gone = true;
        return true;
    }

    // ---- the sweep

    public int sweep() {
        if (journal.down) {
            return DOWN;
        }
        if (sweeper.phase != Sweep.IDLE) {
            return STATE;
        }
        if (!journal.write()) {
            return losePower();
        }
        sweeper.prepare();
        for (int i = 0; i < snapshotsMade; i++) {
            if (!snapshots[i].gone) {
                sweeper.lineUpAll(snapshots[i].roots, snapshots[i].roots.length);
            }
        }
        for (int i = 0; i < MOST_SAVERS; i++) {
            lineUpOrDismiss(savers[i]);
        }
        sweeper.settle();
        return sweeper.number;
    }

    private void lineUpOrDismiss(Saver one) {
        if (!one.here) {
            return;
        }
        if (one.isDead(now)) {
            one.here = false;
        } else {
            sweeper.lineUpAll(one.used, one.usedCount);
        }
    }

    public int step(int n) {
        if (journal.down) {
            return DOWN;
        }
        if (n < 1 || n > GREATEST_NUMBER) {
            return OUTSIDE;
        }
        if (sweeper.phase == Sweep.IDLE) {
            return STATE;
        }
        for (int done = 0; done < n; done++) {
            if (sweeper.phase == Sweep.IDLE) {
                return done;
            }
            if (!sweeper.advance()) {
                return losePower();
            }
        }
        return n;
    }

    public int share(int percent) {
        if (journal.down) {
            return DOWN;
        }
        if (percent < 0 || percent > 100) {
            return OUTSIDE;
        }
        int before = sweeper.percent;
        sweeper.percent = percent;
        return before;
    }

    // ---- power and mirrors

    public int cut(int n) {
        if (journal.down) {
            return DOWN;
        }
        if (n < NONE || n > GREATEST_NUMBER) {
            return OUTSIDE;
        }
        journal.writesLeft = n;
        return 1;
    }

    public int open() {
        if (!journal.down) {
            return STATE;
        }
        journal.down = false;
        return store.blocksWaiting();
    }

    /** What goes with the power; the journal is down already, as the write that was not done left it. */
    private int losePower() {
        for (int i = 0; i < MOST_SAVERS; i++) {
            savers[i].here = false;
        }
        sweeper.phase = Sweep.IDLE;
        return LOST;
    }

    public int follow(int mirror, int n) {
        if (mirror < 0 || mirror >= MIRRORS) {
            return UNKNOWN;
        }
        if (n < 0 || n > GREATEST_NUMBER) {
            return OUTSIDE;
        }
        mirrors[mirror].repeat(journal, n);
        return journal.length - mirrors[mirror].done;
    }

    // ---- what is told

    public int count(int what) {
        switch (what) {
            case 0: return store.blocksMade;
            case 1: return store.blocksMade - store.blocksFreed;
            case 2: return store.blocksWaiting();
            case 3: return snapshotsThere();
            case 4: return store.packsMade;
            case 5: return store.packsMade - store.packsPackedAnew;
            case 6: return saversHere();
            case 7: return sweeper.number;
            case 8: return journal.writes;
            case 9: return store.blocksRevived;
            case 10: return store.blocksFreed;
            case 11: return store.packsPackedAnew;
            case 12: return journal.length;
            case 13: return journal.down ? 1 : 0;
            default: return OUTSIDE;
        }
    }

    public int block(int block, int what) {
        if (block < 0 || block >= store.blocksMade) {
            return UNKNOWN;
        }
        Block one = store.blocks[block];
        switch (what) {
            case 0: return one.freed ? 0 : 1;
            case 1: return one.size;
            case 2: return one.pack;
            case 3: return one.place;
            case 4: return one.waiting;
            case 5: return sweeper.phase != Sweep.IDLE && one.marked ? 1 : 0;
            case 6: return saversThatUse(block);
            case 7: return one.children.length;
            case 8:
            case 9:
            case 10:
            case 11: return what - 8 < one.children.length ? one.children[what - 8] : NONE;
            default: return OUTSIDE;
        }
    }

    public long key(int block) {
        return block >= 0 && block < store.blocksMade ? store.blocks[block].key : 0L;
    }

    public int pack(int pack, int what) {
        if (pack < 0 || pack >= store.packsMade) {
            return UNKNOWN;
        }
        Pack one = store.packs[pack];
        switch (what) {
            case 0: return one.gone ? 0 : 1;
            case 1: return one.all;
            case 2: return one.holes;
            case 3: return store.blocksIn(pack);
            default: return OUTSIDE;
        }
    }

    public int snapshot(int snapshot, int what) {
        if (!snapshotIsThere(snapshot)) {
            return UNKNOWN;
        }
        Snapshot one = snapshots[snapshot];
        if (what < 0 || what - 2 >= one.roots.length) {
            return OUTSIDE;
        }
        switch (what) {
            case 0: return one.tag;
            case 1: return one.roots.length;
            default: return one.roots[what - 2];
        }
    }

    public long time(int snapshot) {
        return snapshotIsThere(snapshot) ? snapshots[snapshot].time : 0L;
    }

    public int saver(int saver, int what) {
        Saver one = saverHere(saver);
        if (one == null) {
            return UNKNOWN;
        }
        if (what < 0 || what - 3 >= one.usedCount) {
            return OUTSIDE;
        }
        switch (what) {
            case 0: return one.isDead(now) ? 1 : 0;
            case 1: return one.usedCount;
            case 2: return one.childCount;
            default: return one.used[what - 3];
        }
    }

    public int swept(int what) {
        boolean idle = sweeper.phase == Sweep.IDLE;
        switch (what) {
            case 0: return sweeper.phase;
            case 1: return idle ? NONE : sweeper.behind - sweeper.first;
            case 2: return idle ? NONE : sweeper.end;
            case 3: return idle || sweeper.phase == Sweep.MARKS ? NONE : sweeper.next;
            default: return OUTSIDE;
        }
    }

    public int calendar(long t, int what) {
        if (t < -FARTHEST_TIME || t > FARTHEST_TIME) {
            return OUTSIDE;
        }
        long day = Calendar.dayOf(t);
        switch (what) {
            case 0: return (int) Calendar.yearOf(day);
            case 1: return Calendar.monthOf(day);
            case 2: return Calendar.dayOfMonth(day);
            case 3: return Calendar.dayOfWeek(day);
            case 4: return (int) day;
            default: return OUTSIDE;
        }
    }

    public int mirrored(int mirror, int what) {
        if (mirror < 0 || mirror >= MIRRORS) {
            return UNKNOWN;
        }
        Mirror one = mirrors[mirror];
        switch (what) {
            case 0: return one.done;
            case 1: return Mirror.held(one.blocks);
            case 2: return Mirror.held(one.snapshots);
            case 3: return brokenSnapshots(one);
            default: return OUTSIDE;
        }
    }

    private int brokenSnapshots(Mirror one) {
        int broken = 0;
        for (int i = 0; i < snapshotsMade; i++) {
            if (one.snapshots[i]) {
                store.reachNothing();
                store.startFromAll(snapshots[i].roots, snapshots[i].roots.length);
                store.reachOn();
                broken += store.reachedOutside(one.blocks) > 0 ? 1 : 0;
            }
        }
        return broken;
    }

    public boolean has(int mirror, int block) {
        return mirror >= 0 && mirror < MIRRORS && block >= 0 && block < MOST_BLOCKS && mirrors[mirror].blocks[block];
    }

    public int audit() {
        int wrong = reachedButFreed() + store.misplacedBlocks() + store.unevenPacks();
        for (int i = 0; i < MIRRORS; i++) {
            replayed.forget();
            replayed.repeat(journal, mirrors[i].done);
            wrong += mirrors[i].differences(replayed);
        }
        return wrong;
    }

    private int reachedButFreed() {
        store.reachNothing();
        for (int i = 0; i < snapshotsMade; i++) {
            if (!snapshots[i].gone) {
                store.startFromAll(snapshots[i].roots, snapshots[i].roots.length);
            }
        }
        for (int i = 0; i < MOST_SAVERS; i++) {
            if (savers[i].here) {
                store.startFromAll(savers[i].used, savers[i].usedCount);
            }
        }
        store.startFromThere();
        store.reachOn();
        return store.reachedButFreed();
    }

    /** Counts the writes, ends them when power goes, and keeps the history of those that mirrors follow. */
    private static final class Journal {
        static final int BLOCK_CAME = 0;
        static final int BLOCK_FREED = 1;
        static final int SNAPSHOT_CAME = 2;
        static final int SNAPSHOT_WENT = 3;
        // each block and each snapshot comes once and goes once at most
        static final int LONGEST = 2 * (MOST_BLOCKS + MOST_SNAPSHOTS);

        final int[] events = new int[LONGEST];
        final int[] numbers = new int[LONGEST];
        int length;
        int writes;
        int writesLeft = NONE;
        boolean down;

        /** Whether the next write is done: if not, power has gone. */
        boolean write() {
            if (writesLeft == 0) {
                writesLeft = NONE;
                down = true;
                return false;
            }
            if (writesLeft > 0) {
                writesLeft--;
            }
            writes++;
            return true;
        }

        boolean write(int event, int number) {
            if (!write()) {
                return false;
            }
            if (length < LONGEST) {
                events[length] = event;
                numbers[length] = number;
                length++;
            }
            return true;
        }
    }

    /** A follower of the history, and what the part of it that it did left to it. */
    private static final class Mirror {
        final boolean[] blocks = new boolean[MOST_BLOCKS];
        final boolean[] snapshots = new boolean[MOST_SNAPSHOTS];
        int done;

        void repeat(Journal journal, int more) {
            int until = Math.min(journal.length, done + more);
            for (int i = done; i < until; i++) {
                int event = journal.events[i];
                boolean[] kind = event == Journal.BLOCK_CAME || event == Journal.BLOCK_FREED ? blocks : snapshots;
                kind[journal.numbers[i]] = event == Journal.BLOCK_CAME || event == Journal.SNAPSHOT_CAME;
            }
            done = until;
        }

        void forget() {
            done = 0;
            for (int i = 0; i < MOST_BLOCKS; i++) {
                blocks[i] = false;
            }
            for (int i = 0; i < MOST_SNAPSHOTS; i++) {
                snapshots[i] = false;
            }
        }

        int differences(Mirror other) {
            int different = 0;
            for (int i = 0; i < MOST_BLOCKS; i++) {
                different += blocks[i] == other.blocks[i] ? 0 : 1;
            }
            for (int i = 0; i < MOST_SNAPSHOTS; i++) {
                different += snapshots[i] == other.snapshots[i] ? 0 : 1;
            }
            return different;
        }

        static int held(boolean[] kind) {
            int held = 0;
            for (int i = 0; i < kind.length; i++) {
                held += kind[i] ? 1 : 0;
            }
            return held;
        }
    }

    private static final class Block {
        final long key;
        final int size;
        final int[] children;
        int pack;
        int place;
        int waiting;
        boolean freed;
        boolean marked;

        Block(long key, int size, int[] children) {
            this.key = key;
            this.size = size;
            this.children = children;
        }

        boolean isLike(long otherKey, int otherSize, int[] others, int otherCount) {
            if (key != otherKey || size != otherSize || children.length != otherCount) {
                return false;
            }
            for (int i = 0; i < otherCount; i++) {
                if (children[i] != others[i]) {
                    return false;
                }
            }
            return true;
        }
    }

    private static final class Pack {
        int all;
        int holes;
        boolean gone;
    }

    /** The blocks and the packs they lie in. */
    private static final class Store {
        final int capacity;
        final Journal journal;
        final Block[] blocks = new Block[MOST_BLOCKS];
        final Pack[] packs = new Pack[MOST_PACKS];
        final boolean[] reached = new boolean[MOST_BLOCKS];
        int blocksMade;
        int blocksFreed;
        int blocksRevived;
        int packsMade;
        int packsPackedAnew;

        Store(int capacity, Journal journal) {
            this.capacity = capacity;
            this.journal = journal;
        }

        boolean holds(int block) {
            return block >= 0 && block < blocksMade && !blocks[block].freed;
        }

        int blocksWaiting() {
            int waiting = 0;
            for (int i = 0; i < blocksMade; i++) {
                waiting += blocks[i].waiting > 0 ? 1 : 0;
            }
            return waiting;
        }

        int blocksIn(int pack) {
            int there = 0;
            for (int i = 0; i < blocksMade; i++) {
                there += liesIn(i, pack) ? 1 : 0;
            }
            return there;
        }

        boolean liesIn(int block, int pack) {
            return !blocks[block].freed && blocks[block].pack == pack;
        }

        int find(long key, int size, int[] children, int childCount) {
            for (int i = 0; i < blocksMade; i++) {
                if (!blocks[i].freed && blocks[i].isLike(key, size, children, childCount)) {
                    return i;
                }
            }
            return NONE;
        }

        /** How full the latest pack is for what comes next: wholly, if it is gone or is the one to leave. */
        int filledOfLatest(int leaving) {
            int latest = packsMade - 1;
            boolean closed = latest < 0 || latest == leaving || packs[latest].gone;
            return closed ? capacity : packs[latest].all;
        }

        boolean hasRoomFor(int size) {
            boolean needsPack = filledOfLatest(NONE) + size > capacity;
            return blocksMade < MOST_BLOCKS && (!needsPack || packsMade < MOST_PACKS);
        }

        /** A new block comes: its number, or LOST; hasRoomFor was asked before. */
        int add(long key, int size, int[] children) {
            int made = blocksMade;
            if (!journal.write(Journal.BLOCK_CAME, made)) {
                return LOST;
            }
            int filled = filledOfLatest(NONE);
            boolean fits = filled + size <= capacity;
            blocks[made] = new Block(key, size, children);
            blocksMade++;
            lay(made, fits ? packsMade - 1 : packsMade, fits ? filled : 0);
            return made;
        }

        void lay(int block, int pack, int place) {
            if (pack == packsMade) {
                packs[pack] = new Pack();
                packsMade++;
            }
            blocks[block].pack = pack;
            blocks[block].place = place;
            packs[pack].all = place + blocks[block].size;
        }

        boolean free(int block) {
            if (!journal.write(Journal.BLOCK_FREED, block)) {
                return false;
            }
            Block one = blocks[block];
            one.freed = true;
            one.waiting = 0;
            packs[one.pack].holes += one.size;
            blocksFreed++;
            return true;
        }

        boolean await(int block, int since) {
            if (!journal.write()) {
                return false;
            }
            blocks[block].waiting = since;
            return true;
        }

        // what some blocks reach: nothing at first, then where it starts from, then on to all children

        void reachNothing() {
            for (int i = 0; i < blocksMade; i++) {
                reached[i] = false;
            }
        }

        void startFrom(int block) {
            reached[block] = true;
        }

        void startFromAll(int[] row, int length) {
            for (int i = 0; i < length; i++) {
                startFrom(row[i]);
            }
        }

        void startFromThere() {
            for (int i = 0; i < blocksMade; i++) {
                if (!blocks[i].freed) {
                    startFrom(i);
                }
            }
        }

        /** Children have lesser numbers, so one way down through the numbers is enough. */
        void reachOn() {
            for (int i = blocksMade - 1; i >= 0; i--) {
                if (reached[i]) {
                    startFromAll(blocks[i].children, blocks[i].children.length);
                }
            }
        }

        int reviveReached() {
            int revived = 0;
            for (int i = 0; i < blocksMade; i++) {
                if (reached[i] && blocks[i].waiting > 0) {
                    if (!await(i, 0)) {
                        return LOST;
                    }
                    revived++;
                    blocksRevived++;
                }
            }
            return revived;
        }

        void markReached() {
            for (int i = 0; i < blocksMade; i++) {
                if (reached[i]) {
                    blocks[i].marked = true;
                }
            }
        }

        int reachedOutside(boolean[] held) {
            int outside = 0;
            for (int i = 0; i < blocksMade; i++) {
                outside += reached[i] && !held[i] ? 1 : 0;
            }
            return outside;
        }

        int reachedButFreed() {
            int freed = 0;
            for (int i = 0; i < blocksMade; i++) {
                freed += reached[i] && blocks[i].freed ? 1 : 0;
            }
            return freed;
        }

        int misplacedBlocks() {
            int misplaced = 0;
            for (int i = 0; i < blocksMade; i++) {
                if (!blocks[i].freed) {
                    Pack around = packs[blocks[i].pack];
                    boolean within = blocks[i].place >= 0 && blocks[i].place + blocks[i].size <= around.all;
                    misplaced += around.gone || !within || liesOverLater(i) ? 1 : 0;
                }
            }
            return misplaced;
        }

        boolean liesOverLater(int block) {
            Block one = blocks[block];
            for (int i = block + 1; i < blocksMade; i++) {
                Block other = blocks[i];
                if (liesIn(i, one.pack) && one.place < other.place + other.size && other.place < one.place + one.size) {
                    return true;
                }
            }
            return false;
        }

        int unevenPacks() {
            int uneven = 0;
            for (int i = 0; i < packsMade; i++) {
                int bytes = packs[i].holes;
                for (int j = 0; j < blocksMade; j++) {
                    bytes += liesIn(j, i) ? blocks[j].size : 0;
                }
                uneven += bytes == packs[i].all ? 0 : 1;
            }
            return uneven;
        }
    }

    /** Packs anew: where each block goes is only planned until the last write, since power may go before that. */
    private static final class Mover {
        final Store store;
        final Journal journal;
        final int[] moved = new int[MOST_BLOCKS];
        final int[] packs = new int[MOST_BLOCKS];
        final int[] places = new int[MOST_BLOCKS];
        int length;

        Mover(Store store, Journal journal) {
            this.store = store;
            this.journal = journal;
        }

        boolean isDue(int pack, int percent) {
            Pack one = store.packs[pack];
            return percent > 0 && !one.gone && one.holes > 0 && 100 * one.holes >= percent * one.all;
        }

        /** Whether power stayed. */
        boolean packAnew(int pack) {
            collect(pack);
            if (!plan(pack)) {
                return true;
            }
            // a write for each block, and the one with which the pack is gone
            for (int i = 0; i <= length; i++) {
                if (!journal.write()) {
                    return false;
                }
            }
            carryOut(pack);
            return true;
        }

        void collect(int pack) {
            length = 0;
            for (int i = 0; i < store.blocksMade; i++) {
                if (store.liesIn(i, pack)) {
                    insertByPlace(i);
                }
            }
        }

        void insertByPlace(int block) {
            int at = length;
            for (int i = length; i > 0 && store.blocks[moved[i - 1]].place > store.blocks[block].place; i--) {
                moved[i] = moved[i - 1];
                at = i - 1;
            }
            moved[at] = block;
            length++;
        }

        /** Whether there are packs enough for it. */
        boolean plan(int pack) {
            int target = store.packsMade - 1;
            int filled = store.filledOfLatest(pack);
            for (int i = 0; i < length; i++) {
                int size = store.blocks[moved[i]].size;
                if (filled + size > store.capacity) {
                    target++;
                    filled = 0;
                }
                packs[i] = target;
                places[i] = filled;
                filled += size;
            }
            return target < MOST_PACKS;
        }

        void carryOut(int pack) {
            for (int i = 0; i < length; i++) {
                store.lay(moved[i], packs[i], places[i]);
            }
            Pack left = store.packs[pack];
            left.gone = true;
            left.all = 0;
            left.holes = 0;
            store.packsPackedAnew++;
        }
    }

    private static final class Snapshot {
        final long time;
        final int tag;
        final int[] roots;
        boolean gone;

        Snapshot(long time, int tag, int[] roots) {
            this.time = time;
            this.tag = tag;
            this.roots = roots;
        }
    }

    /** One of the four places for savers; whoever begins there finds nothing of the one before. */
    private static final class Saver {
        final int[] used = new int[MOST_USED];
        final int[] children = new int[MOST_CHILDREN];
        int usedCount;
        int childCount;
        int lease;
        long until;
        boolean here;

        void arrive(int seconds, long now) {
            here = true;
            usedCount = 0;
            childCount = 0;
            lease = seconds;
            renew(now);
        }

        void renew(long now) {
            until = now + lease;
        }

        boolean isDead(long now) {
            return now > until;
        }

        boolean uses(int block) {
            for (int i = 0; i < usedCount; i++) {
                if (used[i] == block) {
                    return true;
                }
            }
            return false;
        }

        boolean canUse(int block) {
            return usedCount < MOST_USED || uses(block);
        }

        void use(int block) {
            if (usedCount < MOST_USED && !uses(block)) {
                used[usedCount] = block;
                usedCount++;
            }
        }

        boolean addChild(int block) {
            if (childCount >= MOST_CHILDREN) {
                return false;
            }
            children[childCount] = block;
            childCount++;
            return true;
        }
    }

    /** The sweep that is under way, if its phase is not IDLE. */
    private static final class Sweep {
        static final int IDLE = 0;
        static final int MARKS = 1;
        static final int CLEARS = 2;
        static final int CHOOSES = 3;
        static final int PACKS = 4;
        // roots and used blocks, the children of each block that is marked, and a block for each of 512 calls
        static final int ROW_ROOM = (MOST_SNAPSHOTS_THERE + MOST_SAVERS) * MOST_USED + MOST_BLOCKS * MOST_CHILDREN + 512;

        final Store store;
        final Mover mover;
        final int[] row = new int[ROW_ROOM];
        int first;
        int behind;
        int phase;
        int number;
        int end;
        int next;
        int packs;
        int percent = 50;

        Sweep(Store store, Journal journal) {
            this.store = store;
            this.mover = new Mover(store, journal);
        }

        void prepare() {
            number++;
            phase = MARKS;
            first = 0;
            behind = 0;
            end = store.blocksMade;
            for (int i = 0; i < end; i++) {
                store.blocks[i].marked = false;
            }
        }

        void lineUp(int block) {
            if (behind < ROW_ROOM) {
                row[behind] = block;
                behind++;
            }
        }

        void lineUpAll(int[] blocks, int length) {
            for (int i = 0; i < length; i++) {
                lineUp(blocks[i]);
            }
        }

        /** A saver takes the block: what it reaches must outlive this sweep. */
        void spareReached(int block) {
            if (phase == CLEARS || phase == CHOOSES) {
                store.markReached();
            } else if (phase == MARKS && !store.blocks[block].marked) {
                lineUp(block);
            }
        }

        /** One step: whether power stayed. */
        boolean advance() {
            boolean powered = true;
            switch (phase) {
                case MARKS: markFirst(); break;
                case CLEARS: powered = clearNext(); break;
                case CHOOSES: powered = chooseNext(); break;
                case PACKS: powered = packNext(); break;
                default: break;
            }
            settle();
            return powered;
        }

        /** Goes on to the first phase that has something left to look at, as soon as that is so. */
        void settle() {
            if (phase == MARKS && first >= behind) {
                phase = CLEARS;
                next = 0;
            }
            if (phase == CLEARS && next >= end) {
                phase = CHOOSES;
                next = end - 1;
            }
            if (phase == CHOOSES && next < 0) {
                phase = PACKS;
                next = 0;
                packs = store.packsMade;
            }
            if (phase == PACKS && next >= packs) {
                phase = IDLE;
            }
        }

        void markFirst() {
            Block one = store.blocks[row[first]];
            first++;
            if (!one.marked) {
                one.marked = true;
                lineUpAll(one.children, one.children.length);
            }
        }

        boolean clearNext() {
            int block = next;
            next++;
            Block one = store.blocks[block];
            return !one.marked || one.waiting == 0 || store.await(block, 0);
        }

        boolean chooseNext() {
            int block = next;
            next--;
            Block one = store.blocks[block];
            if (one.freed || one.marked) {
                return true;
            }
            return one.waiting > 0 ? store.free(block) : store.await(block, number);
        }

        boolean packNext() {
            int pack = next;
            next++;
            return !mover.isDue(pack, percent) || mover.packAnew(pack);
        }
    }

    /** The rules by which snapshots are kept. */
    private static final class Rules {
        static final int LAST = 0;
        static final int DAYS = 1;
        static final int WEEKS = 2;
        static final int MONTHS = 3;
        static final int YEARS = 4;
        static final int TAGS = 5;

        final int[] numbers = new int[KINDS_OF_RULES];
        final int[] kept = new int[MOST_SNAPSHOTS];

        static int greatest(int kind) {
            return kind == TAGS ? 15 : 100;
        }

        /** Finds by which rules each snapshot is kept. */
        void judge(Snapshot[] snapshots, int made) {
            for (int i = 0; i < made; i++) {
                boolean tagged = !snapshots[i].gone && (numbers[TAGS] >> snapshots[i].tag & 1) == 1;
                kept[i] = tagged ? 1 << TAGS : 0;
            }
            for (int kind = LAST; kind <= YEARS; kind++) {
                judgeBy(kind, snapshots, made);
            }
        }

        void judgeBy(int kind, Snapshot[] snapshots, int made) {
            int keptSoFar = 0;
            long latest = 0;
            for (int i = made - 1; i >= 0 && keptSoFar < numbers[kind]; i--) {
                if (!snapshots[i].gone) {
                    long period = periodOf(kind, i, Calendar.dayOf(snapshots[i].time));
                    if (keptSoFar == 0 || period != latest) {
                        kept[i] |= 1 << kind;
                        keptSoFar++;
                        latest = period;
                    }
                }
            }
        }

        /** For LAST each snapshot is a period of its own. */
        static long periodOf(int kind, int snapshot, long day) {
            switch (kind) {
                case DAYS: return day;
                case WEEKS: return Calendar.weekOf(day);
                case MONTHS: return Calendar.monthsUpTo(day);
                case YEARS: return Calendar.yearOf(day);
                default: return snapshot;
            }
        }
    }

    /**
     * Days are numbered as the document says, weeks and months likewise from somewhere on. Years are reckoned
     * from March on, since so a leap day is the last day of its year, and turned into ordinary ones at the end.
     */
    private static final class Calendar {
        static final long SECONDS_A_DAY = 86400;
        static final long MONDAY_TO_DAY_0 = 3;
        static final long MARCH_OF_YEAR_0_TO_DAY_0 = 719468;
        static final long DAYS_IN_4_YEARS = 1461;
        static final long DAYS_IN_100_YEARS = 36524;
        static final long DAYS_IN_400_YEARS = 146097;

        static long dayOf(long t) {
            return Math.floorDiv(t, SECONDS_A_DAY);
        }

        static long weekOf(long day) {
            return Math.floorDiv(day + MONDAY_TO_DAY_0, 7L);
        }

        static int dayOfWeek(long day) {
            return (int) Math.floorMod(day + MONDAY_TO_DAY_0, 7L);
        }

        static long yearOf(long day) {
            return Math.floorDiv(monthsUpTo(day), 12L);
        }

        static int monthOf(long day) {
            return (int) Math.floorMod(monthsUpTo(day), 12L) + 1;
        }

        static int dayOfMonth(long day) {
            long inEra = Math.floorMod(day + MARCH_OF_YEAR_0_TO_DAY_0, DAYS_IN_400_YEARS);
            long inYear = dayOfMarchYear(inEra, marchYearOfEra(inEra));
            return (int) (inYear - daysBeforeMarchMonth(marchMonth(inYear))) + 1;
        }

        /** The months from January of year 0 on up to that of the day. */
        static long monthsUpTo(long day) {
            long sinceMarch = day + MARCH_OF_YEAR_0_TO_DAY_0;
            long era = Math.floorDiv(sinceMarch, DAYS_IN_400_YEARS);
            long inEra = sinceMarch - era * DAYS_IN_400_YEARS;
            long year = marchYearOfEra(inEra);
            return 12 * (400 * era + year) + marchMonth(dayOfMarchYear(inEra, year)) + 2;
        }

        /** With the leap days before it taken out, each year has 365 days. */
        static long marchYearOfEra(long inEra) {
            long leapDays = inEra / (DAYS_IN_4_YEARS - 1) - inEra / DAYS_IN_100_YEARS + inEra / (DAYS_IN_400_YEARS - 1);
            return (inEra - leapDays) / 365;
        }

        static long dayOfMarchYear(long inEra, long year) {
            return inEra - (365 * year + year / 4 - year / 100);
        }

        /** Five months from March, or from August, on have 153 days. */
        static long marchMonth(long inYear) {
            return (5 * inYear + 2) / 153;
        }

        static long daysBeforeMarchMonth(long month) {
            return (153 * month + 2) / 5;
        }
    }
}
