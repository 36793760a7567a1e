import java.util.ArrayList;
import java.util.List;

/** All that can be seen of an object by calls that are not refused: how often refused comes first. */
final class Seen {
    private Seen() {
    }

    static long[] of(SweptGates x) {
        List<Long> all = new ArrayList<>();
        for (int i = 0; i <= 4; i++) {
            all.add((long) x.told(i));
        }
        addCircuit(x, all);
        addSweep(x, all);
        long[] row = new long[all.size()];
        for (int i = 0; i < row.length; i++) {
            row[i] = all.get(i);
        }
        return row;
    }

    static boolean sameBehindRefusals(long[] a, long[] b) {
        return sameFrom(3, a, b);
    }

    /** The circuit and its sweep alone: neither refusals nor THE TEXT nor STATES. */
    static boolean sameCircuit(long[] a, long[] b) {
        return sameFrom(5, a, b);
    }

    private static boolean sameFrom(int from, long[] a, long[] b) {
        if (a.length != b.length) {
            return false;
        }
        for (int i = from; i < a.length; i++) {
            if (a[i] != b[i]) {
                return false;
            }
        }
        return true;
    }

    private static void addCircuit(SweptGates x, List<Long> all) {
        for (int i = 0; i <= 4; i++) {
            all.add((long) x.count(i));
        }
        for (int g = 0; g < x.count(1); g++) {
            if (g > x.count(0)) {
                all.add((long) x.of(g, 0));
                all.add((long) x.of(g, 1));
            }
            all.add((long) x.table(2 * g));
            all.add((long) x.sign(g));
            all.add((long) x.depth(2 * g));
            all.add((long) x.cone(2 * g));
        }
        for (int s = 0; s < 2; s++) {
            for (int i = 0; i < x.count(2 + s); i++) {
                all.add((long) x.outs(s, i));
            }
        }
    }

    private static void addSweep(SweptGates x, List<Long> all) {
        for (int g = 0; g < x.count(1); g++) {
            all.add((long) x.form(g));
        }
        for (int i = 0; i <= 5; i++) {
            all.add((long) x.swept(i));
        }
        for (int i = 0; i < x.swept(5); i++) {
            all.add((long) x.row(i));
        }
        for (int i = 0; i < x.lines(-1, 0); i++) {
            for (int what = 0; what <= 2; what++) {
                all.add((long) x.lines(i, what));
            }
        }
        all.add((long) x.verdict());
    }
}
