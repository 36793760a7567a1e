import java.math.BigInteger;
import java.util.ArrayList;
import java.util.List;

/** The edges of STATES, of how often refused, of 512 calls, and of promises 27 to 29, each by its sentence. */
public final class StatesEdgesTest {
    private static final int BAD = Edges.BAD, NO = Edges.NO, FULL = Edges.FULL;
    private static final Edges EDGES = new Edges();
    /** Calls of each kind told S; does() behind a text that it can do. */
    private static final String[] CHANGES = {"inputs 4", "gate 2 4", "xor 2 4", "mux 2 4 6", "out 0 2", "out 1 3", "pattern 1",
        "settles", "does"};

    public static void main(String[] args) {
        eachChangeLeavesAState();
        changesThatChangeNothing();
        othersLeaveNone();
        fiveStatesAtMost();
        olderOnesAreLost();
        statesBehindBack();
        stateOfTheFullest();
        backOfNone();
        textAndRefusalsStay();
        refusalsOfEachKind();
        nothingCountsByDoes();
        typeCountsAsAnyCall();
        toldOfWhat();
        toldAtTheLimits();
        fiveHundredAndTwelveCalls();
        digestWrapsAround();
        digestOfNumbersBelowZero();
        digestTellsAllApart();
        EDGES.end();
    }

    // ---- "STATES: each call told S, if it is not refused, leaves one, also if nothing becomes other by it"

    private static void eachChangeLeavesAState() {
        for (String call : CHANGES) {
            Run[] runs = {Runs.fresh().types("p1;"), Run.of("gate 4 6").types("p1;"), Runs.some()};
            for (Run x : runs) {
                EDGES.takes("a STATE by each", x, call, x.answer(call));
            }
        }
    }

    private static void changesThatChangeNothing() {
        Run x = Runs.fresh().types("i3;");
        EDGES.takes("n is 3 already", x, "inputs 3", 3);
        EDGES.takes("nothing to settle", x, "settles", 0);
        EDGES.takes("n is 3 already", x, "does", 1);
        for (String call : new String[] {"inputs 3", "settles", "does"}) {
            EDGES.holds(call + " changes nothing", Seen.of(x).sameCircuit(Seen.of(x.then(call))));
            EDGES.due(call + " leaves five of seven", x.times(7, call).answer("told 4"), 5);
            EDGES.due(call + " goes back", x.times(7, call).answer("back"), 4);
        }
    }

    private static void othersLeaveNone() {
        String[] calls = {"of 4 0", "table 2", "at 2 1", "depth 8", "cone 8", "outs 0 0", "count 1", "sign 1", "form 4",
            "lines -1 0", "swept 4", "row 0", "alike 0", "witness 0", "verdict", "told 0", "digest"};
        for (String call : calls) {
            EDGES.asks("a call that only asks", Runs.some(), call, Runs.some().answer(call));
        }
        for (String call : new String[] {"type 32", "clear"}) {
            EDGES.due("no STATE by " + call, Run.of("gate 2 4", call).answer("told 4"), 1);
            EDGES.due("no STATE by " + call, Run.of("gate 2 4", call, "back").answer("count 1"), 4);
        }
    }

    // ---- "to go back to .. 5 at most, older ones lost"; 27: "A STATE back: how many can be yet."

    private static void fiveStatesAtMost() {
        for (int many = 0; many <= 12; many++) {
            Run x = Runs.fresh();
            for (int i = 0; i < many; i++) {
                x = x.then("pattern " + i % 8);
            }
            int states = Math.min(many, 5);
            EDGES.asks("STATES behind " + many, x, "told 4", states);
            for (int left = states - 1; left >= 0; left--) {
                EDGES.due("27: how many can be yet", x.answer("back"), left);
                x = x.then("back");
                EDGES.due("27: STATES", x.answer("told 4"), left);
                EDGES.due("27: the circuit of then", x.answer("count 4"), many - states + left);
            }
            EDGES.refuses("27: NO: none", x, "back", NO);
        }
    }

    private static void olderOnesAreLost() {
        for (String call : CHANGES) {
            Run x = Run.of("inputs 4").types("p1;");
            for (int i = 0; i < 4; i++) {
                x = x.then("pattern " + i);
            }
            EDGES.due("five STATES", x.answer("told 4"), 5);
            Run six = x.then(call);
            EDGES.due("five STATES behind " + call, six.answer("told 4"), 5);
            Run back = six.then("back", "back", "back", "back", "back");
            EDGES.due("the first is lost by " + call, back.answer("count 0"), 4);
            EDGES.due("not the second", back.answer("count 4"), 0);
            EDGES.refuses("no more by " + call, back, "back", NO);
        }
    }

    private static void statesBehindBack() {
        Run x = Runs.fresh().times(7, "gate 2 4").then("back", "back", "back");
        EDGES.due("two left", x.answer("told 4"), 2);
        EDGES.takes("one more", x, "pattern 1", 1);
        Run y = x.then("pattern 1", "pattern 2", "pattern 3");
        EDGES.due("five again", y.answer("told 4"), 5);
        EDGES.takes("still five", y, "pattern 4", 4);
        int[] nodes = {8, 8, 8, 8, 7};
        int[] patterns = {3, 2, 1, 0, 0};
        Run z = y.then("pattern 4");
        for (int i = 0; i < 5; i++) {
            EDGES.due("how many can be yet", z.answer("back"), 4 - i);
            z = z.then("back");
            EDGES.due("NODES of then", z.answer("count 1"), nodes[i]);
            EDGES.due("PATTERNS of then", z.answer("count 4"), patterns[i]);
        }
        EDGES.refuses("what went back is no STATE", z, "back", NO);
        EDGES.takes("a STATE again", z, "gate 0 0", 14);
    }

    private static void stateOfTheFullest() {
        for (int n = 1; n <= 5; n++) {
            Run x = Runs.full(n);
            for (String call : new String[] {"inputs 1", "inputs 5", "settles", "does"}) {
                EDGES.takes("all of it comes back", x, call, x.answer(call));
            }
            Run y = x.then("inputs 5", "gate 2 11", "out 1 12", "pattern 31", "back", "back", "back");
            EDGES.holds("all of it comes back over four", Seen.of(y.then("back")).sameCircuit(Seen.of(x)));
        }
    }

    // ---- 27: "NO: none."

    private static void backOfNone() {
        EDGES.refuses("27: a new object", Runs.fresh(), "back", NO);
        EDGES.refuses("27: behind refused ones", Run.of("gate 9 9", "inputs 0", "pattern 8"), "back", NO);
        EDGES.refuses("27: behind a FAULT", Runs.fresh().types("i").then("does"), "back", NO);
        EDGES.refuses("27: behind a refused ORDER", Runs.fresh().types("i6;").then("does"), "back", NO);
        EDGES.refuses("27: behind the only one", Run.of("gate 2 4", "back"), "back", NO);
        EDGES.refuses("27: twice", Run.of("back"), "back", NO);
        EDGES.refuses("27: behind five of many", Runs.full(2).times(5, "back"), "back", NO);
        EDGES.takes("27: a STATE again", Run.of("back", "back"), "gate 2 4", 8);
    }

    // ---- "(all but THE TEXT and how often refused)"

    private static void textAndRefusalsStay() {
        Run x = Runs.fresh().types("p").then("gate 2 4").types("7;").then("table -1", "back");
        EDGES.asksEach("how often refused stays", x, "told", 1, 0, 0, 3, 0);
        EDGES.takes("THE TEXT stays", x, "does", 1);
        Run y = Runs.fresh().types("p7;").then("gate 2 4", "clear").then("back");
        EDGES.asks("THE TEXT stays empty", y, "told 3", 0);
        EDGES.asks("THE TEXT stays empty", y, "does", -10);
        Run z = Runs.full(1).times(3, "gate 0 0").then("type -1", "back", "back", "back", "back", "back", "back");
        EDGES.asksEach("all refusals stay, and 150 bytes", z, "told", 1, 1, 3, 150, 0);
    }

    // ---- "Refused (any call, getters, too), changing nothing but how often, the first of: BAD, NO, FULL"

    private static void refusalsOfEachKind() {
        Run x = Runs.full(3);
        String[] bad = {"inputs 0", "gate 96 0", "xor 96 0", "mux 0 0 96", "out 2 0", "pattern 8", "of 3 0", "table 96", "at 0 8",
            "depth 96", "cone 96", "outs 2 0", "count 5", "sign 48", "form 48", "lines -2 0", "swept 6", "row -1", "alike 6",
            "witness 6", "type 128", "told 5"};
        String[] full = {"gate 0 0", "xor 0 0", "mux 0 0 0", "out 0 0", "out 1 0", "pattern 0", "type 0"};
        for (String call : bad) {
            EDGES.refuses("BAD", x, call, BAD);
            EDGES.refuses("BAD, asked before", x.then("digest"), call, BAD);
        }
        for (String call : full) {
            EDGES.refuses("FULL", x, call, FULL);
            EDGES.refuses("FULL, asked before", x.then("digest"), call, FULL);
        }
        Run all = x.then(bad).then(full).times(7, "back");
        EDGES.asksEach("all together", all, "told", bad.length, 2, full.length, 150, 0);
    }

    // ---- "By does() nothing counts (by type() as by any call)."

    private static void nothingCountsByDoes() {
        String[] texts = {"", " ", "z", "i", "i6;", "g99 0;", "i1;g9 9;", "o0 1;".repeat(7), "p0;".repeat(13), "i1;"};
        for (String text : texts) {
            for (Run x : new Run[] {Runs.fresh(), Runs.some().then("clear"), Runs.full(2).then("clear")}) {
                Run y = x.types(text);
                for (int what = 0; what <= 2; what++) {
                    EDGES.due("nothing counts by does() of '" + text + "'", y.then("does").answer("told " + what),
                        y.answer("told " + what));
                }
            }
        }
    }

    private static void typeCountsAsAnyCall() {
        Run x = Runs.fresh().times(151, "type 32").then("type 128", "type -1", "type 32");
        EDGES.asksEach("by type() as by any call", x, "told", 2, 0, 2, 150, 0);
    }

    // ---- 28: "How often refused: BAD (0), NO (1), FULL (2); bytes of THE TEXT (3), STATES (4). BAD."

    private static void toldOfWhat() {
        for (Run x : new Run[] {Runs.fresh(), Runs.some(), Runs.full(4)}) {
            for (int what : new int[] {-1, -2, 5, 6}) {
                EDGES.refuses("28: what 0 .. 4", x, "told " + what, BAD);
            }
        }
        EDGES.asksEach("28: each of its own", Runs.some(), "told", 1, 1, 0, 9, 5);
    }

    private static void toldAtTheLimits() {
        EDGES.asksEach("28: the fullest", Runs.full(2), "told", 0, 0, 0, 150, 5);
        for (int many : new int[] {1, 127, 128, 255, 256, 507}) {
            EDGES.due("28: BAD so often", Runs.fresh().times(many, "told 5").answer("told 0"), many);
            EDGES.due("28: NO so often", Runs.fresh().times(many, "back").answer("told 1"), many);
        }
        for (int many : new int[] {1, 127, 128, 255, 256, 499}) {
            EDGES.due("28: FULL so often", Runs.fresh().times(12 + many, "pattern 0").answer("told 2"), many);
        }
    }

    // ---- "An object is used for at most 512 calls after it has been made"

    private static void last(String what, Run run, String call, long due) {
        EDGES.due(what + ": calls before", run.size(), Run.MOST_CALLS - 1);
        EDGES.due(what + ": call 512", run.answer(call), due);
    }

    private static void fiveHundredAndTwelveCalls() {
        last("BAD", Runs.fresh().times(511, "table -1"), "told 0", 511);
        last("NO", Runs.fresh().times(511, "back"), "told 1", 511);
        last("FULL", Runs.fresh().times(511, "pattern 0"), "told 2", 499);
        last("inputs", Run.of("inputs 1").times(510, "inputs 5"), "inputs 2", 5);
        last("STATES", Runs.fresh().times(511, "settles"), "back", 4);
        last("settles", Runs.fresh().times(44, "gate 2 2").times(467, "table 2"), "settles", 44);
        last("does", Runs.fresh().types("i1;").times(508, "does"), "does", 1);
        last("sweeps", Runs.nodes(5, 48).times(468, "form 47"), "form 47", Runs.nodes(5, 48).answer("form 47"));
        Run typed = Runs.fresh();
        for (int i = 0; i < 3; i++) {
            typed = typed.times(150, "type 105").then("clear");
        }
        last("type", typed.times(58, "type 105"), "type 105", 59);
        Run gates = Runs.fresh();
        for (int i = 0; i < 255; i++) {
            gates = gates.then("gate 2 4", "back");
        }
        last("gate", gates.then("gate 2 4"), "gate 8 8", 10);
        last("digest", gates.then("gate 2 4"), "digest", Run.of("gate 2 4").answer("digest"));
    }

    // ---- 29: "h = 1675; then h = 31 h + v for each v"

    /** The sum without a bound, of which a long holds the last 64 bits. */
    private static BigInteger unbound(List<Long> values) {
        BigInteger h = BigInteger.valueOf(1675);
        for (long v : values) {
            h = h.multiply(BigInteger.valueOf(31)).add(BigInteger.valueOf(v));
        }
        return h;
    }

    private static void digestWrapsAround() {
        List<Run> runs = new ArrayList<>(List.of(Runs.fresh(), Run.of("inputs 1"), Runs.some(), Run.of("out 0 2")));
        for (int n = 1; n <= 5; n++) {
            runs.add(Runs.full(n));
            runs.add(Runs.full(n).then("settles", "gate -1 0", "back", "pattern 0"));
        }
        for (Run x : runs) {
            BigInteger h = unbound(Seen.of(x).digested());
            EDGES.holds("29: more than a long can hold", h.bitLength() > 63);
            EDGES.due("29: with Java's wrap-around", x.answer("digest"), h.longValue());
            EDGES.asks("29: asked twice", x, "digest", h.longValue());
        }
    }

    private static void digestOfNumbersBelowZero() {
        Run x = Run.of("inputs 5", "gate 1 1", "out 0 10");
        List<Long> values = Seen.of(x).digested();
        EDGES.holds("29: a TABLE of -65536", values.contains(-65536L));
        EDGES.holds("29: a TABLE of -1", values.contains(-1L));
        EDGES.due("29: the verdict, -1", values.get(values.size() - 1), -1);
        EDGES.due("29: numbers below 0", x.answer("digest"), unbound(values).longValue());
    }

    private static void digestTellsAllApart() {
        Run[] runs = {Runs.fresh(), Run.of("table -1"), Run.of("back"), Runs.fresh().times(13, "pattern 0"),
            Runs.fresh().times(12, "pattern 0"), Runs.fresh().types(" "), Run.of("settles"), Run.of("settles", "back"),
            Run.of("gate 2 4"), Run.of("gate 4 2"), Run.of("out 0 2"), Run.of("out 1 2"), Run.of("inputs 2"), Run.of("pattern 0")};
        for (int i = 0; i < runs.length; i++) {
            for (int k = 0; k < i; k++) {
                boolean same = i == 7 && k == 0;
                EDGES.holds("29: " + i + " and " + k, (runs[i].answer("digest") == runs[k].answer("digest")) == same);
            }
        }
    }
}
