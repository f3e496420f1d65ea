/**
 * All that an object tells, as a text, so that two objects can be compared. Of many blocks, packs and snapshots
 * the latest ones alone: an object is promised to answer 512 calls, and a picture should take few of them.
 */
final class Picture {
    private final SafeSweeps x;
    private final StringBuilder told = new StringBuilder();

    private Picture(SafeSweeps x) {
        this.x = x;
    }

    static String of(SafeSweeps x) {
        Picture picture = new Picture(x);
        picture.countsAndSweep();
        picture.blocksAndPacks();
        picture.snapshots();
        picture.saversAndMirrors();
        return picture.told.toString();
    }

    private void row(String name, long... numbers) {
        told.append(name);
        for (long number : numbers) {
            told.append(' ').append(number);
        }
        told.append('\n');
    }

    private void countsAndSweep() {
        for (int what = 0; what <= 13; what++) {
            row("count " + what, x.count(what));
        }
        row("swept", x.swept(0), x.swept(1), x.swept(2), x.swept(3));
        row("audit", x.audit());
    }

    private void blocksAndPacks() {
        int blocks = x.count(0);
        for (int i = Math.max(0, blocks - 12); i < blocks; i++) {
            row("block " + i, x.key(i), x.block(i, 0), x.block(i, 1), x.block(i, 2), x.block(i, 3), x.block(i, 4), x.block(i, 5),
                x.block(i, 6), x.block(i, 7), x.block(i, 8), x.block(i, 9), x.block(i, 10), x.block(i, 11));
        }
        int packs = x.count(4);
        for (int i = Math.max(0, packs - 5); i < packs; i++) {
            row("pack " + i, x.pack(i, 0), x.pack(i, 1), x.pack(i, 2), x.pack(i, 3));
        }
    }

    private void snapshots() {
        int left = x.count(3);
        for (int i = 0; i < 40 && left > 0; i++) {
            int roots = x.snapshot(i, 1);
            if (roots >= 0) {
                left--;
                row("snapshot " + i, roots, x.snapshot(i, 0), x.time(i), x.snapshot(i, 2), x.snapshot(i, 1 + roots));
            }
        }
    }

    private void saversAndMirrors() {
        for (int i = 0; i < 4; i++) {
            int used = x.saver(i, 1);
            row("saver " + i, used, x.saver(i, 0), x.saver(i, 2));
            for (int j = 0; j < used; j++) {
                row("uses", x.saver(i, 3 + j));
            }
        }
        for (int i = 0; i < 2; i++) {
            row("mirror " + i, x.mirrored(i, 0), x.mirrored(i, 1), x.mirrored(i, 2), x.mirrored(i, 3));
        }
    }
}
