/** The edges of promises 1 to 8, each by the sentence that names it. */
public final class CircuitsEdgesTest {
    private static final int BAD = Edges.BAD, FULL = Edges.FULL, NONE = Edges.NONE, NO = Edges.NO;
    private static final Edges EDGES = new Edges();

    public static void main(String[] args) {
        newObjectHasThreeInputs();
        newObjectIsEmpty();
        newObjectsShareNothing();
        inputsFromOneToFive();
        inputsAnswersWhatNWas();
        inputsForgetsAllOfTheFullest();
        inputsLeavesRoomForAll();
        gateOfLiteralsAhead();
        gateFillsFortyEightNodes();
        gateBadBeforeFull();
        gateHasRoomAgainBehindBack();
        xorOfLiteralsAhead();
        xorOfFalseAndTrue();
        xorFillsFortyEightNodes();
        muxOfLiteralsAhead();
        muxOfFalseAndTrue();
        muxFillsFortyEightNodes();
        threeGatesBadBeforeFull();
        outOfBothSides();
        outOfLiteralsThere();
        outSixOfASide();
        outBadBeforeFull();
        patternOfRowsThere();
        patternTwelve();
        patternToldTwice();
        patternBadBeforeFull();
        settlesWhereNothingGoes();
        settlesWhereAllGatesGo();
        settlesTheFullest();
        settlesKeepsAllPatternsAndOuts();
        settlesNeverRefused();
        EDGES.end();
    }

    // ---- 1: "As told; three INPUTS."

    private static void newObjectHasThreeInputs() {
        String what = "1: three INPUTS";
        EDGES.asksEach(what, Runs.fresh(), "count", 3, 4, 0, 0, 0);
        EDGES.asks(what, Runs.fresh(), "table 6", 0xF0);
        EDGES.refuses(what, Runs.fresh(), "table 8", BAD);
        EDGES.asks(what, Runs.fresh(), "at 1 7", 1);
        EDGES.refuses(what, Runs.fresh(), "at 1 8", BAD);
    }

    private static void newObjectIsEmpty() {
        String what = "1: nothing is there yet";
        Run x = Runs.fresh();
        EDGES.asksEach(what, x, "told", 0, 0, 0, 0, 0);
        EDGES.asksEach(what, x, "swept", 0, 0, 0, 0, 0, 0);
        EDGES.asksEach(what, x, "form", 0, 2, 4, 6);
        EDGES.asksEach(what, x, "sign", 0, 0, 0, 0);
        EDGES.asks(what, x, "lines -1 0", 0);
        EDGES.asksEach(what, x, "lines 0", -5, -5, -5);
        EDGES.asks(what, x, "outs 0 0", NONE);
        EDGES.asks(what, x, "outs 1 0", NONE);
        EDGES.asks(what, x, "row 0", NONE);
        EDGES.asks(what, x, "verdict", 1);
        EDGES.asks(what, x, "clear", 0);
        EDGES.asks(what, x, "does", -10);
        EDGES.refuses(what, x, "of 4 0", BAD);
        EDGES.refuses(what, x, "alike 0", BAD);
        EDGES.refuses(what, x, "witness 0", BAD);
        EDGES.refuses(what, x, "back", NO);
    }

    private static void newObjectsShareNothing() {
        long alone = Runs.fresh().answer("digest");
        SweptGates other = new SweptGates();
        other.inputs(5);
        other.gate(2, 4);
        other.out(0, 12);
        other.pattern(31);
        other.type('i');
        other.back();
        other.table(-1);
        other.settles();
        EDGES.due("1: a new object beside a used one", Runs.fresh().answer("digest"), alone);
        SweptGates first = new SweptGates();
        new SweptGates().gate(2, 4);
        EDGES.due("1: an object beside one made later", first.digest(), alone);
    }

    // ---- 2: "n becomes v; no GATES, OUTS, PATTERNS: what n was. S. BAD." (n 1 .. 5)

    private static void inputsFromOneToFive() {
        Run[] runs = {Runs.fresh(), Runs.some(), Runs.full(1), Runs.full(5)};
        long[] before = {3, 3, 1, 5};
        for (int i = 0; i < runs.length; i++) {
            for (int v = 1; v <= 5; v++) {
                EDGES.takes("2: n 1 .. 5", runs[i], "inputs " + v, before[i]);
            }
            for (int v : new int[] {0, 6, -1, 7, 32}) {
                EDGES.refuses("2: n below 1 or above 5", runs[i], "inputs " + v, BAD);
            }
        }
    }

    private static void inputsAnswersWhatNWas() {
        for (int v = 1; v <= 5; v++) {
            for (int w = 1; w <= 5; w++) {
                EDGES.takes("2: what n was", Run.of("inputs " + v), "inputs " + w, v);
                EDGES.due("2: n becomes v", Run.of("inputs " + v, "inputs " + w).answer("count 0"), w);
            }
        }
    }

    private static void inputsForgetsAllOfTheFullest() {
        for (int n : new int[] {1, 5}) {
            for (int v = 1; v <= 5; v++) {
                String what = "2: no GATES, OUTS, PATTERNS behind inputs(" + v + ")";
                Run x = Runs.full(n).then("inputs " + v);
                EDGES.asksEach(what, x, "count", v, v + 1, 0, 0, 0);
                EDGES.refuses(what, x, "of " + (v + 1) + " 0", BAD);
                EDGES.refuses(what, x, "of " + v + " 0", BAD);
                EDGES.asks(what, x, "depth " + 2 * v, 0);
                EDGES.asks(what, x, "cone " + 2 * v, 0);
                EDGES.asks(what, x, "sign " + v, 0);
                EDGES.asks(what, x, "outs 0 0", NONE);
                EDGES.asks(what, x, "outs 1 0", NONE);
                EDGES.asks(what, x, "row 0", NONE);
                EDGES.asks(what, x, "lines -1 0", 0);
                EDGES.holds(what + ": as a new object's", Seen.of(x).sameCircuit(Seen.of(Run.of("inputs " + v))));
            }
        }
    }

    private static void inputsLeavesRoomForAll() {
        for (int v = 1; v <= 5; v++) {
            Run x = Runs.full(3).then("inputs " + v).times(46 - v, "gate 1 1");
            EDGES.takes("2: room for 48 NODES", x, "gate 1 1", 94);
            EDGES.refuses("2: and no more", x.then("gate 1 1"), "gate 1 1", FULL);
        }
        Run x = Runs.full(3).then("inputs 2").times(5, "out 1 5").times(11, "pattern 3");
        EDGES.takes("2: room for 6 OUTS", x, "out 1 4", 5);
        EDGES.takes("2: room for 12 PATTERNS", x, "pattern 3", 12);
    }

    // ---- 3: "A new GATE of LITERALS a, b: its LITERAL (2 times it). S. BAD; FULL: 48 NODES."

    /** LITERALS of NODES ahead of it: 0 .. 2 times the new GATE, less 1. */
    private static void gateOfLiteralsAhead() {
        for (int n = 1; n <= 5; n++) {
            for (int nodes : new int[] {n + 1, n + 2, 47}) {
                Run x = Runs.nodes(n, nodes);
                int own = 2 * nodes;
                for (int l : new int[] {0, 1, own - 2, own - 1}) {
                    EDGES.takes("3: the least and greatest LITERALS", x, "gate " + l + " 1", own);
                    EDGES.takes("3: the least and greatest LITERALS", x, "gate 1 " + l, own);
                    EDGES.takes("3: a and b the same", x, "gate " + l + " " + l, own);
                    EDGES.due("3: a as told", x.then("gate " + l + " 1").answer("of " + nodes + " 0"), l);
                    EDGES.due("3: b as told", x.then("gate 1 " + l).answer("of " + nodes + " 1"), l);
                }
                for (int l : new int[] {-1, -2, own, own + 1, own + 2}) {
                    EDGES.refuses("3: a is no LITERAL ahead", x, "gate " + l + " 2", BAD);
                    EDGES.refuses("3: b is no LITERAL ahead", x, "gate 2 " + l, BAD);
                    EDGES.refuses("3: neither is", x, "gate " + l + " " + l, BAD);
                }
            }
        }
    }

    private static void gateFillsFortyEightNodes() {
        for (int n = 1; n <= 5; n++) {
            EDGES.takes("3: the 47th NODE", Runs.nodes(n, 46), "gate 2 3", 92);
            EDGES.takes("3: the 48th NODE", Runs.nodes(n, 47), "gate 2 3", 94);
            EDGES.refuses("3: FULL: 48 NODES", Runs.nodes(n, 48), "gate 2 3", FULL);
            EDGES.refuses("3: FULL: 48 NODES, with the last LITERAL", Runs.nodes(n, 48), "gate 95 95", FULL);
            EDGES.due("3: never more than 48", Runs.nodes(n, 48).then("gate 2 3").answer("count 1"), 48);
        }
    }

    private static void gateBadBeforeFull() {
        Run x = Runs.full(4);
        for (int l : new int[] {-1, 96, 97}) {
            EDGES.refuses("3: BAD before FULL", x, "gate " + l + " 0", BAD);
            EDGES.refuses("3: BAD before FULL", x, "gate 0 " + l, BAD);
        }
    }

    private static void gateHasRoomAgainBehindBack() {
        Run x = Runs.nodes(2, 48).then("gate 2 4", "back");
        EDGES.takes("3: room again behind back()", x, "gate 5 3", 94);
        Run y = Runs.nodes(2, 48).then("gate 2 4", "settles");
        EDGES.holds("3: room again behind settles()", y.answer("gate 5 3") > 0);
    }

    // ---- 4: "Three new GATES .. p of a, b turned; q of a turned, b; the third of p turned, q turned"

    private static void xorOfLiteralsAhead() {
        for (int nodes : new int[] {4, 5, 45}) {
            Run x = Runs.nodes(3, nodes);
            int own = 2 * nodes;
            for (int l : new int[] {0, 1, own - 2, own - 1}) {
                EDGES.takes("4: the least and greatest LITERALS", x, "xor " + l + " 2", own + 5);
                EDGES.takes("4: the least and greatest LITERALS", x, "xor 2 " + l, own + 5);
                threeGates("4: xor", x.then("xor " + l + " 2"), nodes, l, 3, l ^ 1, 2);
                threeGates("4: xor", x.then("xor 2 " + l), nodes, 2, l ^ 1, 3, l);
            }
            for (int l : new int[] {-1, -2, own, own + 1, own + 2, own + 4, own + 5}) {
                EDGES.refuses("4: a is no LITERAL there yet", x, "xor " + l + " 2", BAD);
                EDGES.refuses("4: b is no LITERAL there yet", x, "xor 2 " + l, BAD);
            }
        }
    }

    /** p, q and the third, by their LITERALS. */
    private static void threeGates(String what, Run x, int p, int a, int b, int c, int d) {
        int[] due = {a, b, c, d, 2 * p + 1, 2 * p + 3};
        for (int i = 0; i < 6; i++) {
            EDGES.due(what + " LITERAL " + i, x.answer("of " + (p + i / 2) + " " + i % 2), due[i]);
        }
        EDGES.due(what + " NODES", x.answer("count 1"), p + 3);
    }

    private static void xorOfFalseAndTrue() {
        int[][] due = {{0, 0, 0}, {0, 1, 0xFF}, {1, 0, 0xFF}, {1, 1, 0}, {2, 2, 0}, {2, 3, 0xFF}, {1, 2, 0x55}};
        for (int[] row : due) {
            String call = "xor " + row[0] + " " + row[1];
            EDGES.due("4: just one of them: " + call, Run.of(call).answer("table 13"), row[2]);
        }
    }

    private static void xorFillsFortyEightNodes() {
        for (int n = 1; n <= 5; n++) {
            EDGES.takes("4: the 46th to 48th NODE", Runs.nodes(n, 45), "xor 2 3", 95);
            EDGES.due("4: 48 NODES", Runs.nodes(n, 45).then("xor 2 3").answer("count 1"), 48);
            for (int nodes = 46; nodes <= 48; nodes++) {
                EDGES.refuses("4: more than 48 NODES", Runs.nodes(n, nodes), "xor 2 3", FULL);
            }
        }
    }

    // ---- 5: "p of s, a; q of s turned, b; the third of p turned, q turned"

    private static void muxOfLiteralsAhead() {
        for (int nodes : new int[] {4, 5, 45}) {
            Run x = Runs.nodes(3, nodes);
            int own = 2 * nodes;
            for (int l : new int[] {0, 1, own - 2, own - 1}) {
                EDGES.takes("5: the least and greatest LITERALS", x, "mux " + l + " 4 6", own + 5);
                EDGES.takes("5: the least and greatest LITERALS", x, "mux 2 " + l + " 6", own + 5);
                EDGES.takes("5: the least and greatest LITERALS", x, "mux 2 4 " + l, own + 5);
                threeGates("5: mux by s", x.then("mux " + l + " 4 6"), nodes, l, 4, l ^ 1, 6);
                threeGates("5: mux by a", x.then("mux 2 " + l + " 6"), nodes, 2, l, 3, 6);
                threeGates("5: mux by b", x.then("mux 2 4 " + l), nodes, 2, 4, 3, l);
            }
            for (int l : new int[] {-1, -2, own, own + 1, own + 2, own + 4, own + 5}) {
                EDGES.refuses("5: s is no LITERAL there yet", x, "mux " + l + " 4 6", BAD);
                EDGES.refuses("5: a is no LITERAL there yet", x, "mux 2 " + l + " 6", BAD);
                EDGES.refuses("5: b is no LITERAL there yet", x, "mux 2 4 " + l, BAD);
            }
        }
    }

    private static void muxOfFalseAndTrue() {
        int[][] due = {{0, 2, 4, 0xCC}, {1, 2, 4, 0xAA}, {6, 0, 1, 0x0F}, {6, 1, 0, 0xF0}, {6, 0, 0, 0}, {6, 1, 1, 0xFF}};
        for (int[] row : due) {
            String call = "mux " + row[0] + " " + row[1] + " " + row[2];
            EDGES.due("5: a where s is true, else b: " + call, Run.of(call).answer("table 13"), row[3]);
        }
    }

    private static void muxFillsFortyEightNodes() {
        for (int n = 1; n <= 5; n++) {
            EDGES.takes("5: the 46th to 48th NODE", Runs.nodes(n, 45), "mux 2 3 1", 95);
            EDGES.due("5: 48 NODES", Runs.nodes(n, 45).then("mux 2 3 1").answer("count 1"), 48);
            for (int nodes = 46; nodes <= 48; nodes++) {
                EDGES.refuses("5: more than 48 NODES", Runs.nodes(n, nodes), "mux 2 3 1", FULL);
            }
        }
    }

    private static void threeGatesBadBeforeFull() {
        for (int nodes = 46; nodes <= 48; nodes++) {
            Run x = Runs.nodes(3, nodes);
            for (int l : new int[] {-1, 2 * nodes}) {
                EDGES.refuses("4: BAD before FULL", x, "xor " + l + " 2", BAD);
                EDGES.refuses("4: BAD before FULL", x, "xor 2 " + l, BAD);
                EDGES.refuses("5: BAD before FULL", x, "mux " + l + " 2 2", BAD);
                EDGES.refuses("5: BAD before FULL", x, "mux 2 " + l + " 2", BAD);
                EDGES.refuses("5: BAD before FULL", x, "mux 2 2 " + l, BAD);
            }
        }
    }

    // ---- 6: "LITERAL l is an OUT more of SIDE s: its number there (0 on). S. BAD; FULL: 6."

    private static void outOfBothSides() {
        for (Run x : new Run[] {Runs.fresh(), Run.of("inputs 1"), Run.of("inputs 5")}) {
            EDGES.takes("6: SIDE 0", x, "out 0 2", 0);
            EDGES.takes("6: SIDE 1", x, "out 1 2", 0);
            EDGES.refuses("6: no SIDE below 0", x, "out -1 2", BAD);
            EDGES.refuses("6: no SIDE above 1", x, "out 2 2", BAD);
            EDGES.refuses("6: no SIDE above 1", x, "out 3 2", BAD);
        }
        EDGES.asksEach("6: on SIDE 0 alone", Run.of("out 0 2"), "count", 3, 4, 1, 0, 0);
        EDGES.asksEach("6: on SIDE 1 alone", Run.of("out 1 2"), "count", 3, 4, 0, 1, 0);
    }

    private static void outOfLiteralsThere() {
        for (Run x : new Run[] {Run.of("inputs 1"), Runs.fresh(), Runs.nodes(2, 7), Runs.nodes(5, 48)}) {
            long end = 2 * x.answer("count 1");
            for (int s = 0; s <= 1; s++) {
                for (long l : new long[] {0, 1, end - 2, end - 1}) {
                    EDGES.takes("6: the least and greatest LITERALS", x, "out " + s + " " + l, 0);
                    EDGES.due("6: the OUT", x.then("out " + s + " " + l).answer("outs " + s + " 0"), l);
                }
                for (long l : new long[] {-1, -2, end, end + 1}) {
                    EDGES.refuses("6: no LITERAL", x, "out " + s + " " + l, BAD);
                }
            }
        }
    }

    private static void outSixOfASide() {
        for (int s = 0; s <= 1; s++) {
            Run x = Runs.fresh();
            for (int i = 0; i < 6; i++) {
                EDGES.takes("6: its number there (0 on)", x, "out " + s + " " + i, i);
                x = x.then("out " + s + " " + i);
            }
            EDGES.refuses("6: FULL: 6", x, "out " + s + " 6", FULL);
            EDGES.refuses("6: FULL: 6, one that is there too", x, "out " + s + " 0", FULL);
            EDGES.takes("6: the other SIDE is not full", x, "out " + (1 - s) + " 7", 0);
            EDGES.takes("6: room again behind back()", x.then("out " + s + " 6", "back"), "out " + s + " 6", 5);
            EDGES.due("6: OUTS of the full SIDE", x.answer("count " + (2 + s)), 6);
        }
    }

    private static void outBadBeforeFull() {
        Run x = Runs.full(2);
        EDGES.refuses("6: FULL on both SIDES", x, "out 0 95", FULL);
        EDGES.refuses("6: FULL on both SIDES", x, "out 1 95", FULL);
        for (int s = -1; s <= 2; s++) {
            EDGES.refuses("6: BAD before FULL", x, "out " + s + " -1", BAD);
            EDGES.refuses("6: BAD before FULL", x, "out " + s + " 96", BAD);
        }
        EDGES.refuses("6: BAD before FULL", x, "out -1 2", BAD);
        EDGES.refuses("6: BAD before FULL", x, "out 2 2", BAD);
    }

    // ---- 7: "ROW r comes as a PATTERN: how many. S. BAD; FULL: 12 (one may be told twice)."

    private static void patternOfRowsThere() {
        for (int n = 1; n <= 5; n++) {
            Run x = Run.of("inputs " + n);
            int rows = 1 << n;
            for (int r : new int[] {0, 1, rows - 2, rows - 1}) {
                EDGES.takes("7: ROWS 0 .. 2 to the n, less 1", x, "pattern " + r, 1);
                EDGES.due("7: the ROW", x.then("pattern " + r).answer("row 0"), r);
            }
            for (int r : new int[] {-1, -2, rows, rows + 1, 32, 33}) {
                EDGES.refuses("7: no ROW of " + n + " INPUTS", x, "pattern " + r, BAD);
            }
        }
    }

    private static void patternTwelve() {
        Run x = Run.of("inputs 5");
        for (int i = 1; i <= 12; i++) {
            EDGES.takes("7: how many", x, "pattern " + (32 - i), i);
            x = x.then("pattern " + (32 - i));
        }
        EDGES.refuses("7: FULL: 12", x, "pattern 0", FULL);
        EDGES.refuses("7: FULL: 12, one that is there too", x, "pattern 31", FULL);
        EDGES.due("7: PATTERNS told", x.then("pattern 0").answer("count 4"), 12);
        EDGES.due("7: the 12th", x.then("pattern 0").answer("row 11"), 20);
        EDGES.takes("7: room again behind back()", x.then("pattern 0", "back"), "pattern 0", 12);
    }

    private static void patternToldTwice() {
        Run x = Run.of("pattern 7");
        EDGES.takes("7: one may be told twice", x, "pattern 7", 2);
        EDGES.asks("7: and is there twice", x.then("pattern 7"), "sign 1", 0b11);
        EDGES.takes("7: one may fill all", Runs.fresh().times(11, "pattern 5"), "pattern 5", 12);
        EDGES.refuses("7: FULL by one alone", Runs.fresh().times(12, "pattern 5"), "pattern 5", FULL);
    }

    private static void patternBadBeforeFull() {
        for (int n = 1; n <= 5; n++) {
            EDGES.refuses("7: BAD before FULL", Runs.full(n), "pattern -1", BAD);
            EDGES.refuses("7: BAD before FULL", Runs.full(n), "pattern " + (1 << n), BAD);
            EDGES.refuses("7: FULL at the last ROW", Runs.full(n), "pattern " + ((1 << n) - 1), FULL);
        }
    }

    // ---- 8: "SETTLING: how many NODES went. S."

    private static void settlesWhereNothingGoes() {
        for (int n = 1; n <= 5; n++) {
            Run x = Run.of("inputs " + n);
            EDGES.takes("8: no GATES", x, "settles", 0);
            EDGES.holds("8: nothing is other", Seen.of(x).sameCircuit(Seen.of(x.then("settles"))));
        }
        EDGES.takes("8: a new object", Runs.fresh(), "settles", 0);
        Run x = Run.of("xor 2 4", "out 0 13", "pattern 7");
        EDGES.takes("8: all are KEPT", x, "settles", 0);
        EDGES.holds("8: nothing is other", Seen.of(x).sameCircuit(Seen.of(x.then("settles"))));
        EDGES.takes("8: twice", Runs.some().then("settles"), "settles", 0);
    }

    private static void settlesWhereAllGatesGo() {
        for (int n = 1; n <= 5; n++) {
            Run x = Run.of("inputs " + n).times(46 - n, "gate 0 1").then("gate 93 2");
            x = x.then("out 0 92", "out 0 93", "out 1 94", "out 1 95");
            EDGES.takes("8: all GATES go", x, "settles", 47 - n);
            Run y = x.then("settles");
            EDGES.asksEach("8: none is left", y, "count", n, n + 1, 2, 2, 0);
            EDGES.asksEach("8: OUTS by RULES", y, "outs 0", 0, 1, NONE);
            EDGES.asksEach("8: OUTS by RULES", y, "outs 1", 2, 3, NONE);
            EDGES.refuses("8: no GATE", y, "of " + (n + 1) + " 0", BAD);
            EDGES.asks("8: no LINES", y, "lines -1 0", 0);
        }
    }

    /** 48 NODES of which all but the last two are one GATE. */
    private static void settlesTheFullest() {
        Run x = Run.of("inputs 2").times(43, "gate 4 2").then("gate 5 3", "gate 91 93");
        EDGES.due("8: 48 NODES", x.answer("count 1"), 48);
        x = x.then("out 0 95", "out 1 90");
        EDGES.takes("8: how many NODES went", x, "settles", 42);
        Run y = x.then("settles");
        EDGES.asksEach("8: the first KEPT GATE", y, "of 3", 2, 4);
        EDGES.asksEach("8: the next", y, "of 4", 3, 5);
        EDGES.asksEach("8: the last, numbered anew", y, "of 5", 7, 9);
        EDGES.asks("8: its OUT", y, "outs 0 0", 11);
        EDGES.asks("8: the other OUT", y, "outs 1 0", 6);
        EDGES.asks("8: its DEPTH", y, "depth 10", 2);
        EDGES.asks("8: its TABLE", y, "table 10", 0b0110);
    }

    private static void settlesKeepsAllPatternsAndOuts() {
        Run x = Run.of("gate 2 4", "gate 4 2");
        for (int i = 0; i < 6; i++) {
            x = x.then("out 0 " + (i + 6), "out 1 " + (11 - i));
        }
        for (int i = 0; i < 12; i++) {
            x = x.then("pattern " + i % 8);
        }
        EDGES.takes("8: with all OUTS and PATTERNS there can be", x, "settles", 1);
        Run y = x.then("settles");
        EDGES.asksEach("8: OUTS of SIDE 0", y, "outs 0", 6, 7, 8, 9, 8, 9);
        EDGES.asksEach("8: OUTS of SIDE 1", y, "outs 1", 9, 8, 9, 8, 7, 6);
        EDGES.asks("8: PATTERNS stay as told", y, "count 4", 12);
        EDGES.asksEach("8: PATTERNS stay as told", y, "row", 0, 1, 2, 3, 4, 5, 6, 7, 0, 1, 2, 3, NONE);
        Run few = Run.of("gate 2 4", "pattern 1");
        EDGES.due("8: PATTERNS came by THE SWEEP", few.answer("swept 5"), 3);
        EDGES.asks("8: these are not told ones", few.then("settles"), "count 4", 1);
    }

    private static void settlesNeverRefused() {
        for (int n = 1; n <= 5; n++) {
            Run x = Runs.full(n);
            EDGES.takes("8: at the limits", x, "settles", 48 - x.then("settles").answer("count 1"));
        }
    }
}
