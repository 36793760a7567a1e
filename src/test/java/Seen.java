import java.util.ArrayList;
import java.util.Arrays;
import java.util.List;

/** All that can be seen behind a run by calls that are not refused. */
final class Seen {
    private static final int MOST_NODES = 48, MOST_OUTS = 6, MOST_PATTERNS = 12, MOST_STATES = 5;

    /** told(0) to told(4). */
    final long[] told;
    /** All of the circuit and its sweep: neither refusals nor THE TEXT nor STATES. */
    private final List<long[]> circuit = new ArrayList<>();
    private final Run run;
    private final int n;
    private final int nodes;

    private Seen(Run run) {
        this.run = run;
        told = each("told", 5);
        long[] counts = each("count", 5);
        n = within(counts[0], 5);
        nodes = within(counts[1], MOST_NODES);
        circuit.add(counts);
        addNodes();
        addOuts(within(counts[2], MOST_OUTS), within(counts[3], MOST_OUTS));
        addSweep();
    }

    static Seen of(Run run) {
        return new Seen(run);
    }

    boolean sameCircuit(Seen other) {
        return same(circuit, other.circuit);
    }

    /** The circuit, how many bytes THE TEXT has and how many STATES there are. */
    boolean sameButRefusals(Seen other) {
        return sameCircuit(other) && told[3] == other.told[3] && told[4] == other.told[4];
    }

    /**
     * Whether two runs can not be told apart but by how often they were refused, now or later: what THE TEXT
     * does and each STATE to go back to count too, as they can not be seen at once.
     */
    static boolean sameFuture(Run a, Run b) {
        if (!of(a).sameButRefusals(of(b)) || !sameThen(a, b, "does")) {
            return false;
        }
        for (int i = 0; i <= MOST_STATES; i++) {
            if (!sameThen(a, b, "back")) {
                return false;
            }
            a = a.then("back");
            b = b.then("back");
        }
        return true;
    }

    private static boolean sameThen(Run a, Run b, String call) {
        return a.answer(call) == b.answer(call) && of(a.then(call)).sameButRefusals(of(b.then(call)));
    }

    /** The values of promise 29, in its order. */
    List<Long> digested() {
        List<Long> all = new ArrayList<>();
        addAll(all, told);
        addAll(all, each("count", 5));
        for (int g = 0; g < nodes; g++) {
            if (g > n) {
                addAll(all, run.answers("of " + g + " 0", "of " + g + " 1"));
            }
            addAll(all, run.answers("table " + 2 * g, "sign " + g, "form " + g));
        }
        for (int s = 0; s < 2; s++) {
            addAll(all, indexed("outs " + s, run.answer("count " + (2 + s))));
        }
        addAll(all, indexed("row", run.answer("swept 5")));
        addAll(all, each("swept", 6));
        for (int i = 0; i < run.answer("lines -1 0"); i++) {
            addAll(all, run.answers("lines " + i + " 0", "lines " + i + " 1", "lines " + i + " 2"));
        }
        all.add(run.answer("verdict"));
        return all;
    }

    private static void addAll(List<Long> all, long[] row) {
        for (long v : row) {
            all.add(v);
        }
    }

    private static boolean same(List<long[]> a, List<long[]> b) {
        return Arrays.deepEquals(a.toArray(), b.toArray());
    }

    /** A count that is wrong must not let a test run on for ever. */
    private static int within(long count, int most) {
        return (int) Math.max(0, Math.min(count, most));
    }

    private long[] each(String name, int many) {
        return indexed(name, many);
    }

    private long[] indexed(String name, long many) {
        List<Call> asked = new ArrayList<>();
        for (int i = 0; i < many; i++) {
            asked.add(Call.of(name + " " + i));
        }
        return run.answers(asked);
    }

    private void addNodes() {
        List<Call> gates = new ArrayList<>();
        List<Call> truths = new ArrayList<>();
        for (int g = 0; g < nodes; g++) {
            if (g > n) {
                gates.add(new Call("of", new int[] {g, 0}));
                gates.add(new Call("of", new int[] {g, 1}));
            }
            gates.add(new Call("depth", new int[] {2 * g}));
            gates.add(new Call("cone", new int[] {2 * g}));
            truths.add(new Call("table", new int[] {2 * g}));
            truths.add(new Call("sign", new int[] {g}));
            truths.add(new Call("form", new int[] {g}));
        }
        circuit.add(run.answers(gates));
        circuit.add(run.answers(truths));
    }

    private void addOuts(int first, int second) {
        circuit.add(indexed("outs 0", first));
        circuit.add(indexed("outs 1", second));
        circuit.add(indexed("alike", Math.min(first, second)));
        circuit.add(indexed("witness", Math.min(first, second)));
    }

    private void addSweep() {
        long[] tallies = run.answers("swept 0", "swept 1", "swept 2", "swept 3", "swept 4", "swept 5", "lines -1 0", "verdict");
        circuit.add(tallies);
        circuit.add(indexed("row", within(tallies[5], MOST_PATTERNS)));
        List<Call> lines = new ArrayList<>();
        for (int i = 0; i < within(tallies[6], MOST_NODES); i++) {
            for (int what = 0; what <= 2; what++) {
                lines.add(new Call("lines", new int[] {i, what}));
            }
        }
        circuit.add(run.answers(lines));
    }
}
