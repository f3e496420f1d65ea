import java.time.DayOfWeek;
import java.time.LocalDate;
import java.time.temporal.TemporalAdjusters;
import java.util.ArrayDeque;
import java.util.ArrayList;
import java.util.Arrays;
import java.util.Collections;
import java.util.HashSet;
import java.util.List;
import java.util.Set;
import java.util.TreeMap;
import java.util.TreeSet;
import java.util.function.Function;

/**
 * The document once more, held in other ways than the class holds it: packs are lists of what lies in them,
 * power that goes is an exception, mirrors replay the history whenever they are asked, the calendar is Java's.
 */
final class Model {
    static final int NONE = -1, UNKNOWN = -101, OUTSIDE = -102, STATE = -103, ROOM = -104, LOST = -105, DOWN = -106;

    private static final class PowerGone extends RuntimeException {
        private static final long serialVersionUID = 1L;
    }

    private record Content(long key, int size, List<Integer> children) { }

    private static final class Snap {
        long time;
        int tag;
        List<Integer> roots;
        boolean there = true;
    }

    private static final class Worker {
        int lease;
        long until;
        List<Integer> uses = new ArrayList<>();
        List<Integer> row = new ArrayList<>();
    }

    /** What lies in a pack, in order: the numbers of blocks, freed ones too. */
    private static final class Box {
        List<Integer> lying = new ArrayList<>();
        boolean gone;

        Box copy() {
            Box copy = new Box();
            copy.lying.addAll(lying);
            copy.gone = gone;
            return copy;
        }
    }

    private final int capacity;
    private long now = -10_000_000_000L;
    private boolean down;
    private int cutIn = NONE;
    private int writes, sweeps, revived, packedAnew, share = 50;
    private final List<Content> contents = new ArrayList<>();
    private final Set<Integer> freed = new HashSet<>();
    private final TreeMap<Integer, Integer> waiting = new TreeMap<>();
    private final TreeMap<Integer, int[]> lastPlaces = new TreeMap<>();
    private List<Box> boxes = new ArrayList<>();
    private final List<Snap> snaps = new ArrayList<>();
    private final TreeMap<Integer, Worker> workers = new TreeMap<>();
    private final List<String> history = new ArrayList<>();
    private final int[] followed = new int[2];
    private final int[] rules = new int[6];
    // the sweep that is under way
    private String phase = "";
    private final ArrayDeque<Integer> row = new ArrayDeque<>();
    private final Set<Integer> marked = new HashSet<>();
    private final ArrayDeque<Integer> ahead = new ArrayDeque<>();
    private int end;

    Model(int capacity) {
        this.capacity = capacity < 20 ? 20 : capacity > 1000 ? 1000 : capacity;
    }

    private void write() {
        if (cutIn == 0) {
            throw new PowerGone();
        }
        cutIn = cutIn == NONE ? NONE : cutIn - 1;
        writes++;
    }

    private int powered(java.util.function.IntSupplier call) {
        try {
            return call.getAsInt();
        } catch (PowerGone gone) {
            down = true;
            cutIn = NONE;
            workers.clear();
            endSweep();
            return LOST;
        }
    }

    private void endSweep() {
        phase = "";
        row.clear();
        marked.clear();
        ahead.clear();
    }

    private boolean there(int block) {
        return block >= 0 && block < contents.size() && !freed.contains(block);
    }

    private TreeSet<Integer> reach(int block) {
        TreeSet<Integer> all = new TreeSet<>();
        ArrayDeque<Integer> open = new ArrayDeque<>(List.of(block));
        while (!open.isEmpty()) {
            int next = open.pop();
            if (all.add(next)) {
                open.addAll(contents.get(next).children());
            }
        }
        return all;
    }

    private boolean dead(Worker worker) {
        return now > worker.until;
    }

    private void renew(Worker worker) {
        if (worker != null && !dead(worker)) {
            worker.until = now + worker.lease;
        }
    }

    int at(long t) {
        if (down) return DOWN;
        if (t < now || t > 1_000_000_000_000L) return OUTSIDE;
        now = t;
        return 1;
    }

    int begin(int lease) {
        if (down) return DOWN;
        if (lease < 1 || lease > 1_000_000) return OUTSIDE;
        for (int i = 0; i < 4; i++) {
            if (!workers.containsKey(i)) {
                Worker worker = new Worker();
                worker.lease = lease;
                worker.until = now + lease;
                workers.put(i, worker);
                return i;
            }
        }
        return ROOM;
    }

    int child(int saver, int block) {
        if (down) return DOWN;
        Worker worker = workers.get(saver);
        renew(worker);
        if (worker == null || !there(block)) return UNKNOWN;
        if (dead(worker) || !worker.uses.contains(block)) return STATE;
        if (worker.row.size() == 4) return ROOM;
        worker.row.add(block);
        return worker.row.size();
    }

    int save(int saver, long key, int size) {
        if (down) return DOWN;
        Worker worker = workers.get(saver);
        renew(worker);
        if (worker == null) return UNKNOWN;
        if (size < 1 || size > capacity) return OUTSIDE;
        if (dead(worker)) return STATE;
        Content content = new Content(key, size, List.copyOf(worker.row));
        int found = NONE;
        for (int i = 0; i < contents.size(); i++) {
            if (there(i) && contents.get(i).equals(content)) found = i;
        }
        if (found == NONE) {
            if (worker.uses.size() == 8 || contents.size() == 80) return ROOM;
            List<Box> after = copyOf(boxes);
            contents.add(content);
            put(after, contents.size() - 1, NONE);
            contents.remove(contents.size() - 1);
            if (after.size() > 40) return ROOM;
            return powered(() -> {
                write();
                int made = contents.size();
                contents.add(content);
                boxes = after;
                history.add("B" + made);
                worker.uses.add(made);
                worker.row.clear();
                return made;
            });
        }
        if (worker.uses.size() == 8 && !worker.uses.contains(found)) return ROOM;
        int block = found;
        return powered(() -> {
            taking(worker, block);
            worker.row.clear();
            return block;
        });
    }

    private static List<Box> copyOf(List<Box> boxes) {
        List<Box> copy = new ArrayList<>();
        for (Box box : boxes) copy.add(box.copy());
        return copy;
    }

    private int bytes(Box box) {
        return box.lying.stream().mapToInt(b -> contents.get(b).size()).sum();
    }

    private int holes(Box box) {
        return box.lying.stream().filter(freed::contains).mapToInt(b -> contents.get(b).size()).sum();
    }

    private void put(List<Box> into, int block, int notInto) {
        int latest = into.size() - 1;
        boolean fits = latest >= 0 && latest != notInto && !into.get(latest).gone
            && bytes(into.get(latest)) + contents.get(block).size() <= capacity;
        if (!fits) into.add(new Box());
        into.get(into.size() - 1).lying.add(block);
    }

    private int taking(Worker worker, int block) {
        int count = 0;
        for (int one : reach(block)) {
            if (waiting.containsKey(one)) {
                write();
                waiting.remove(one);
                revived++;
                count++;
            }
        }
        if (phase.equals("clears") || phase.equals("chooses")) marked.addAll(reach(block));
        if (phase.equals("marks") && !marked.contains(block)) row.add(block);
        if (!worker.uses.contains(block)) worker.uses.add(block);
        return count;
    }

    int take(int saver, int block) {
        if (down) return DOWN;
        Worker worker = workers.get(saver);
        renew(worker);
        if (worker == null || !there(block)) return UNKNOWN;
        if (dead(worker)) return STATE;
        if (worker.uses.size() == 8 && !worker.uses.contains(block)) return ROOM;
        return powered(() -> taking(worker, block));
    }

    int commit(int saver, int tag) {
        if (down) return DOWN;
        Worker worker = workers.get(saver);
        if (worker == null) return UNKNOWN;
        if (tag < 0 || tag > 3) return OUTSIDE;
        if (dead(worker) || worker.uses.isEmpty()) return STATE;
        if (order().size() == 10 || snaps.size() == 40) return ROOM;
        return powered(() -> {
            write();
            Snap snap = new Snap();
            snap.time = now;
            snap.tag = tag;
            snap.roots = worker.uses;
            history.add("S" + snaps.size());
            snaps.add(snap);
            workers.remove(saver);
            return snaps.size() - 1;
        });
    }

    int give(int saver) {
        if (down) return DOWN;
        Worker worker = workers.remove(saver);
        return worker == null ? UNKNOWN : worker.uses.size();
    }

    private boolean snapThere(int snapshot) {
        return snapshot >= 0 && snapshot < snaps.size() && snaps.get(snapshot).there;
    }

    private List<Integer> order() {
        List<Integer> order = new ArrayList<>();
        for (int i = snaps.size() - 1; i >= 0; i--) {
            if (snaps.get(i).there) order.add(i);
        }
        return order;
    }

    private void remove(int snapshot) {
        write();
        snaps.get(snapshot).there = false;
        history.add("s" + snapshot);
    }

    int drop(int snapshot) {
        if (down) return DOWN;
        if (!snapThere(snapshot)) return UNKNOWN;
        return powered(() -> {
            remove(snapshot);
            return 1;
        });
    }

    int rule(int kind, int n) {
        if (down) return DOWN;
        if (kind < 0 || kind > 5 || n < 0 || n > (kind == 5 ? 15 : 100)) return OUTSIDE;
        int before = rules[kind];
        rules[kind] = n;
        return before;
    }

    private static LocalDate date(long t) {
        return LocalDate.ofEpochDay(Math.floorDiv(t, 86400L));
    }

    private Set<Integer> firstOfEach(int most, Function<LocalDate, Object> period) {
        Set<Integer> kept = new HashSet<>();
        Object latest = null;
        for (int one : order()) {
            Object its = period.apply(date(snaps.get(one).time));
            if (kept.size() < most && !its.equals(latest)) {
                kept.add(one);
                latest = its;
            }
        }
        return kept;
    }

    private int keptBy(int snapshot) {
        int sum = order().indexOf(snapshot) < rules[0] ? 1 : 0;
        sum += firstOfEach(rules[1], d -> d).contains(snapshot) ? 2 : 0;
        sum += firstOfEach(rules[2], d -> d.with(TemporalAdjusters.previousOrSame(DayOfWeek.MONDAY))).contains(snapshot) ? 4 : 0;
        sum += firstOfEach(rules[3], d -> d.withDayOfMonth(1)).contains(snapshot) ? 8 : 0;
        sum += firstOfEach(rules[4], LocalDate::getYear).contains(snapshot) ? 16 : 0;
        int[] bits = {1, 2, 4, 8};
        sum += (rules[5] & bits[snaps.get(snapshot).tag]) != 0 ? 32 : 0;
        return sum;
    }

    int keeps(int snapshot) {
        if (down) return DOWN;
        return snapThere(snapshot) ? keptBy(snapshot) : UNKNOWN;
    }

    int prune(boolean word) {
        if (down) return DOWN;
        List<Integer> going = new ArrayList<>(order());
        going.removeIf(one -> keptBy(one) != 0);
        if (!order().isEmpty() && going.size() == order().size() && !word) return STATE;
        Collections.reverse(going);
        return powered(() -> {
            going.forEach(this::remove);
            return going.size();
        });
    }

    int sweep() {
        if (down) return DOWN;
        if (!phase.isEmpty()) return STATE;
        return powered(() -> {
            write();
            sweeps++;
            workers.values().removeIf(this::dead);
            marked.clear();
            for (Snap snap : snaps) {
                if (snap.there) row.addAll(snap.roots);
            }
            for (Worker worker : workers.values()) row.addAll(worker.uses);
            end = contents.size();
            phase = "marks";
            goOn();
            return sweeps;
        });
    }

    private void goOn() {
        if (phase.equals("marks") && row.isEmpty()) {
            phase = "clears";
            for (int i = 0; i < end; i++) ahead.add(i);
        }
        if (phase.equals("clears") && ahead.isEmpty()) {
            phase = "chooses";
            for (int i = end - 1; i >= 0; i--) ahead.add(i);
        }
        if (phase.equals("chooses") && ahead.isEmpty()) {
            phase = "packs";
            for (int i = 0; i < boxes.size(); i++) ahead.add(i);
        }
        if (phase.equals("packs") && ahead.isEmpty()) endSweep();
    }

    private void oneStep() {
        switch (phase) {
            case "marks" -> {
                int block = row.remove();
                if (marked.add(block)) row.addAll(contents.get(block).children());
            }
            case "clears" -> {
                int block = ahead.remove();
                if (marked.contains(block) && waiting.containsKey(block)) {
                    write();
                    waiting.remove(block);
                }
            }
            case "chooses" -> choose(ahead.remove());
            default -> packAnew(ahead.remove());
        }
        goOn();
    }

    private void choose(int block) {
        if (freed.contains(block) || marked.contains(block)) return;
        write();
        if (waiting.containsKey(block)) {
            lastPlaces.put(block, placeOf(block));
            waiting.remove(block);
            freed.add(block);
            history.add("b" + block);
        } else {
            waiting.put(block, sweeps);
        }
    }

    private void packAnew(int pack) {
        Box box = boxes.get(pack);
        if (box.gone || share == 0 || holes(box) == 0 || 100 * holes(box) < share * bytes(box)) return;
        List<Box> after = copyOf(boxes);
        int moved = 0;
        for (int block : box.lying) {
            if (!freed.contains(block)) {
                put(after, block, pack);
                moved++;
            }
        }
        if (after.size() > 40) return;
        for (int i = 0; i < moved + 1; i++) write();
        after.get(pack).gone = true;
        after.get(pack).lying.clear();
        boxes = after;
        packedAnew++;
    }

    int step(int n) {
        if (down) return DOWN;
        if (n < 1 || n > 500) return OUTSIDE;
        if (phase.isEmpty()) return STATE;
        return powered(() -> {
            int done = 0;
            while (done < n && !phase.isEmpty()) {
                oneStep();
                done++;
            }
            return done;
        });
    }

    int share(int percent) {
        if (down) return DOWN;
        if (percent < 0 || percent > 100) return OUTSIDE;
        int before = share;
        share = percent;
        return before;
    }

    int cut(int n) {
        if (down) return DOWN;
        if (n < -1 || n > 500) return OUTSIDE;
        cutIn = n;
        return 1;
    }

    int open() {
        if (!down) return STATE;
        down = false;
        return waiting.size();
    }

    int follow(int mirror, int n) {
        if (mirror != 0 && mirror != 1) return UNKNOWN;
        if (n < 0 || n > 500) return OUTSIDE;
        followed[mirror] = Math.min(history.size(), followed[mirror] + n);
        return history.size() - followed[mirror];
    }

    int count(int what) {
        int[] counts = {contents.size(), contents.size() - freed.size(), waiting.size(), order().size(), boxes.size(),
            (int) boxes.stream().filter(box -> !box.gone).count(), workers.size(), sweeps, writes, revived,
            freed.size(), packedAnew, history.size(), down ? 1 : 0};
        return what < 0 || what >= counts.length ? OUTSIDE : counts[what];
    }

    private int[] placeOf(int block) {
        for (int i = 0; i < boxes.size(); i++) {
            int place = 0;
            for (int one : boxes.get(i).lying) {
                if (one == block && !freed.contains(block)) return new int[] {i, place};
                place += contents.get(one).size();
            }
        }
        return lastPlaces.get(block);
    }

    int block(int block, int what) {
        if (block < 0 || block >= contents.size()) return UNKNOWN;
        List<Integer> children = contents.get(block).children();
        return switch (what) {
            case 0 -> there(block) ? 1 : 0;
            case 1 -> contents.get(block).size();
            case 2, 3 -> placeOf(block)[what - 2];
            case 4 -> waiting.getOrDefault(block, 0);
            case 5 -> marked.contains(block) ? 1 : 0;
            case 6 -> (int) workers.values().stream().filter(worker -> worker.uses.contains(block)).count();
            case 7 -> children.size();
            case 8, 9, 10, 11 -> children.size() > what - 8 ? children.get(what - 8) : NONE;
            default -> OUTSIDE;
        };
    }

    long key(int block) {
        return block < 0 || block >= contents.size() ? 0 : contents.get(block).key();
    }

    int pack(int pack, int what) {
        if (pack < 0 || pack >= boxes.size()) return UNKNOWN;
        Box box = boxes.get(pack);
        return switch (what) {
            case 0 -> box.gone ? 0 : 1;
            case 1 -> bytes(box);
            case 2 -> holes(box);
            case 3 -> (int) box.lying.stream().filter(this::there).count();
            default -> OUTSIDE;
        };
    }

    int snapshot(int snapshot, int what) {
        if (!snapThere(snapshot)) return UNKNOWN;
        Snap snap = snaps.get(snapshot);
        if (what == 0) return snap.tag;
        if (what == 1) return snap.roots.size();
        return what < 0 || what >= snap.roots.size() + 2 ? OUTSIDE : snap.roots.get(what - 2);
    }

    long time(int snapshot) {
        return snapThere(snapshot) ? snaps.get(snapshot).time : 0;
    }

    int saver(int saver, int what) {
        Worker worker = workers.get(saver);
        if (worker == null) return UNKNOWN;
        if (what == 0) return dead(worker) ? 1 : 0;
        if (what == 1) return worker.uses.size();
        if (what == 2) return worker.row.size();
        return what < 0 || what >= worker.uses.size() + 3 ? OUTSIDE : worker.uses.get(what - 3);
    }

    int swept(int what) {
        if (what < 0 || what > 3) return OUTSIDE;
        int now = Arrays.asList("", "marks", "clears", "chooses", "packs").indexOf(phase);
        if (what == 0) return now;
        if (now == 0) return NONE;
        return what == 1 ? row.size() : what == 2 ? end : now == 1 ? NONE : ahead.peek();
    }

    int calendar(long t, int what) {
        if (what < 0 || what > 4 || Math.abs(t) > 1_000_000_000_000L || t == Long.MIN_VALUE) return OUTSIDE;
        LocalDate date = date(t);
        return new int[] {date.getYear(), date.getMonthValue(), date.getDayOfMonth(),
            date.getDayOfWeek().getValue() - 1, (int) date.toEpochDay()}[what];
    }

    private Set<String> mirror(int mirror) {
        Set<String> held = new HashSet<>();
        for (String event : history.subList(0, followed[mirror])) {
            if (Character.isUpperCase(event.charAt(0))) held.add(event);
            else held.remove(event.toUpperCase());
        }
        return held;
    }

    int mirrored(int mirror, int what) {
        if (mirror != 0 && mirror != 1) return UNKNOWN;
        Set<String> held = mirror(mirror);
        return switch (what) {
            case 0 -> followed[mirror];
            case 1 -> (int) held.stream().filter(one -> one.startsWith("B")).count();
            case 2 -> (int) held.stream().filter(one -> one.startsWith("S")).count();
            case 3 -> (int) held.stream().filter(one -> one.startsWith("S") && broken(one, held)).count();
            default -> OUTSIDE;
        };
    }

    private boolean broken(String snapshot, Set<String> held) {
        for (int root : snaps.get(Integer.parseInt(snapshot.substring(1))).roots) {
            for (int one : reach(root)) {
                if (!held.contains("B" + one)) return true;
            }
        }
        return false;
    }

    boolean has(int mirror, int block) {
        return (mirror == 0 || mirror == 1) && mirror(mirror).contains("B" + block);
    }

    int audit() {
        return 0;
    }
}
