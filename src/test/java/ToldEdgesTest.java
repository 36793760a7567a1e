/** The edges of promises 9 to 16, each by the sentence that names it. */
public final class ToldEdgesTest {
    private static final int BAD = Edges.BAD, NONE = Edges.NONE;
    private static final Edges EDGES = new Edges();

    public static void main(String[] args) {
        ofGatesAlone();
        ofTwoLiterals();
        ofAsTold();
        tableOfLiteralsThere();
        tableOfRowsThere();
        tableOfAllThirtyTwoRows();
        tableOfMinusTwo();
        atRowsThere();
        atLiteralsThere();
        atEachBitOfARow();
        depthOfNoGate();
        depthOfTheGreater();
        depthOfTheDeepest();
        depthOfLiteralsThere();
        coneOfNoGate();
        coneOfEachOnce();
        coneOfAll();
        coneOfLiteralsThere();
        outsOfSidesThere();
        outsBehindTheLast();
        outsBelowZero();
        countOfWhat();
        countAtTheLimits();
        signOfNodesThere();
        signOfNoPatterns();
        signOfTwelvePatterns();
        signByToldPatternsAlone();
        EDGES.end();
    }

    private static Run[] sizes() {
        return new Run[] {Run.of("inputs 1"), Runs.fresh(), Run.of("inputs 1", "gate 2 3"), Runs.some(), Runs.nodes(1, 48),
            Runs.full(5)};
    }

    /** A call of a LITERAL is taken of the least and the greatest, and of none outside. */
    private static void literals(String what, String name, String behind) {
        for (Run x : sizes()) {
            long end = 2 * x.answer("count 1");
            for (long l : new long[] {0, 1, end - 2, end - 1}) {
                EDGES.due(what, x.then(name + " " + l + behind).answer("told 0"), x.answer("told 0"));
            }
            for (long l : new long[] {-1, -2, end, end + 1}) {
                EDGES.refuses(what, x, name + " " + l + behind, BAD);
            }
        }
    }

    // ---- 9: "Of GATE g: its LITERALS a (what 0), b (1), as told. BAD: no GATE, too."

    private static void ofGatesAlone() {
        for (int n = 1; n <= 5; n++) {
            for (int nodes : new int[] {n + 2, 48}) {
                Run x = Runs.nodes(n, nodes);
                EDGES.asksEach("9: the first GATE", x, "of " + (n + 1), 2 * n + 1, 2 * n - 2);
                EDGES.asksEach("9: the last GATE", x, "of " + (nodes - 1), 2 * nodes - 3, 2 * nodes - 6);
                for (int g : new int[] {-1, 0, 1, n, nodes, nodes + 1}) {
                    EDGES.refuses("9: no GATE", x, "of " + g + " 0", BAD);
                    EDGES.refuses("9: no GATE", x, "of " + g + " 1", BAD);
                }
            }
            EDGES.refuses("9: there is none", Run.of("inputs " + n), "of " + (n + 1) + " 0", BAD);
        }
    }

    private static void ofTwoLiterals() {
        for (int what : new int[] {-1, 2, 3}) {
            EDGES.refuses("9: what 0, 1", Runs.some(), "of 4 " + what, BAD);
            EDGES.refuses("9: what 0, 1", Runs.some(), "of 6 " + what, BAD);
            EDGES.refuses("9: neither GATE nor what", Runs.some(), "of 3 " + what, BAD);
        }
    }

    /** The greater may stand first, and both may be FALSE, TRUE or the newest: no rule is done here. */
    private static void ofAsTold() {
        int[][] pairs = {{0, 0}, {0, 1}, {1, 0}, {1, 1}, {7, 0}, {0, 7}, {7, 6}, {6, 7}, {7, 7}};
        for (int[] pair : pairs) {
            Run x = Run.of("gate " + pair[0] + " " + pair[1]);
            EDGES.asksEach("9: as told", x, "of 4", pair[0], pair[1]);
        }
        EDGES.asksEach("9: as told, behind a sweep", Run.of("gate 7 2", "form 4"), "of 4", 7, 2);
    }

    // ---- 10: "TABLE of LITERAL l. BAD: -2 (counts as BAD)."

    private static void tableOfLiteralsThere() {
        literals("10: a LITERAL there", "table", "");
    }

    /** ROWS that are not there: off. */
    private static void tableOfRowsThere() {
        int[] trues = {0b11, 0b1111, 0xFF, 0xFFFF, -1};
        int[] lasts = {0b10, 0b1100, 0xF0, 0xFF00, 0xFFFF0000};
        for (int n = 1; n <= 5; n++) {
            Run x = Run.of("inputs " + n);
            int all = trues[n - 1];
            EDGES.asksEach("10: FALSE and TRUE of " + n, x, "table", 0, all);
            EDGES.asks("10: the first INPUT of " + n, x, "table 2", 0xAAAAAAAA & all);
            EDGES.asks("10: the first INPUT turned", x, "table 3", 0x55555555 & all);
            EDGES.asks("10: the last INPUT of " + n, x, "table " + 2 * n, lasts[n - 1]);
            EDGES.asks("10: the last INPUT turned", x, "table " + (2 * n + 1), all & ~lasts[n - 1]);
            Run y = x.then("gate 0 0", "gate 1 1");
            int g = 2 * (n + 1);
            EDGES.asks("10: a GATE never true", y, "table " + g, 0);
            EDGES.asks("10: turned, true in each ROW there", y, "table " + (g + 1), all);
            EDGES.asks("10: a GATE always true", y, "table " + (g + 2), all);
            EDGES.asks("10: turned, in none", y, "table " + (g + 3), 0);
        }
    }

    private static void tableOfAllThirtyTwoRows() {
        Run x = Run.of("inputs 5", "gate 2 4", "gate 6 8", "gate 12 14", "gate 16 10");
        EDGES.asks("10: bit 31 alone", x, "table 18", Integer.MIN_VALUE);
        EDGES.asks("10: all but bit 31", x, "table 19", Integer.MAX_VALUE);
        EDGES.asks("10: INPUT 5", x, "table 10", -65536);
        EDGES.asks("10: INPUT 5 turned", x, "table 11", 65535);
    }

    private static void tableOfMinusTwo() {
        Run x = Run.of("inputs 5", "gate 3 5", "gate 7 9", "gate 12 14", "gate 16 11");
        EDGES.asks("10: a TABLE of -2 counts as nothing", x, "table 19", -2);
        EDGES.refuses("10: -2 (counts as BAD)", x, "table 20", BAD);
        EDGES.due("10: how often", x.then("table 19", "table 20", "table 19").answer("told 0"), 1);
    }

    // ---- 11: "Whether LITERAL l is true in ROW r: 1, 0. BAD."

    private static void atRowsThere() {
        for (int n = 1; n <= 5; n++) {
            Run x = Run.of("inputs " + n);
            int rows = 1 << n;
            EDGES.asks("11: the first ROW", x, "at 2 0", 0);
            EDGES.asks("11: the first ROW", x, "at 3 0", 1);
            EDGES.asks("11: the last ROW", x, "at 2 " + (rows - 1), 1);
            EDGES.asks("11: the last ROW", x, "at " + (2 * n + 1) + " " + (rows - 1), 0);
            EDGES.asks("11: TRUE in the last", x, "at 1 " + (rows - 1), 1);
            for (int r : new int[] {-1, -2, rows, rows + 1, 32, 33, 64}) {
                EDGES.refuses("11: no ROW of " + n, x, "at 1 " + r, BAD);
                EDGES.refuses("11: no ROW of " + n, x, "at 0 " + r, BAD);
            }
        }
    }

    private static void atLiteralsThere() {
        literals("11: a LITERAL there", "at", " 0");
        EDGES.refuses("11: neither is there", Runs.some(), "at -1 -1", BAD);
        EDGES.refuses("11: neither is there", Runs.some(), "at 14 8", BAD);
    }

    /** INPUT k is true in it, if bit k - 1 is on. */
    private static void atEachBitOfARow() {
        Run x = Run.of("inputs 5");
        for (int k = 1; k <= 5; k++) {
            int bit = 1 << k - 1;
            EDGES.asks("11: that bit alone", x, "at " + 2 * k + " " + bit, 1);
            EDGES.asks("11: all but that bit", x, "at " + 2 * k + " " + (31 - bit), 0);
            EDGES.asks("11: turned", x, "at " + (2 * k + 1) + " " + bit, 0);
            EDGES.asks("11: turned", x, "at " + (2 * k + 1) + " " + (31 - bit), 1);
        }
    }

    // ---- 12: "DEPTH of LITERAL l. BAD." (of NODE 0, INPUTS 0; of a GATE 1 more than the greater of its LITERALS')

    private static void depthOfNoGate() {
        for (int n = 1; n <= 5; n++) {
            EDGES.asksEach("12: of NODE 0", Runs.full(n), "depth", 0, 0, 0, 0);
            EDGES.asks("12: of the last INPUT", Runs.full(n), "depth " + 2 * n, 0);
            EDGES.asks("12: of the last INPUT turned", Runs.full(n), "depth " + (2 * n + 1), 0);
        }
        EDGES.asks("12: a GATE of FALSE", Run.of("gate 0 0"), "depth 8", 1);
        EDGES.asks("12: a GATE of TRUE, turned", Run.of("gate 1 1"), "depth 9", 1);
    }

    private static void depthOfTheGreater() {
        Run x = Run.of("gate 2 4", "gate 9 0", "gate 11 6", "gate 6 11", "gate 10 8", "gate 10 10");
        EDGES.asks("12: one of depth 1", x, "depth 10", 2);
        EDGES.asks("12: the first is the greater", x, "depth 12", 3);
        EDGES.asks("12: the second is the greater", x, "depth 15", 3);
        EDGES.asks("12: both are GATES", x, "depth 16", 3);
        EDGES.asks("12: both are the same", x, "depth 18", 3);
    }

    private static void depthOfTheDeepest() {
        for (int n = 1; n <= 5; n++) {
            EDGES.asks("12: the deepest of all", Runs.nodes(n, 48), "depth 94", 47 - n);
            EDGES.asks("12: the deepest of all, turned", Runs.nodes(n, 48), "depth 95", 47 - n);
        }
    }

    private static void depthOfLiteralsThere() {
        literals("12: a LITERAL there", "depth", "");
    }

    // ---- 13: "How many GATES LITERAL l hangs on (its own NODE, if it is one, too; each once). BAD."

    private static void coneOfNoGate() {
        for (int n = 1; n <= 5; n++) {
            EDGES.asksEach("13: of NODE 0 and INPUT 1", Runs.full(n), "cone", 0, 0, 0, 0);
            EDGES.asks("13: of the last INPUT", Runs.full(n), "cone " + 2 * n, 0);
            EDGES.asks("13: its own NODE alone", Runs.full(n), "cone " + (2 * n + 2), 1);
            EDGES.asks("13: its own NODE alone, turned", Runs.full(n), "cone " + (2 * n + 3), 1);
        }
    }

    private static void coneOfEachOnce() {
        Run x = Run.of("gate 2 4", "gate 8 9", "gate 10 8", "gate 12 10", "gate 3 3", "gate 0 1");
        EDGES.asks("13: one by both LITERALS", x, "cone 10", 2);
        EDGES.asks("13: one by two ways", x, "cone 12", 3);
        EDGES.asks("13: and by more", x, "cone 15", 4);
        EDGES.asks("13: none of the others", x, "cone 16", 1);
        EDGES.asks("13: by its first LITERAL alone", x.then("gate 11 4"), "cone 20", 3);
        EDGES.asks("13: by its second LITERAL alone", x.then("gate 4 11"), "cone 20", 3);
        EDGES.asks("13: nor FALSE and TRUE", x, "cone 18", 1);
    }

    private static void coneOfAll() {
        for (int n = 1; n <= 5; n++) {
            EDGES.asks("13: all GATES there can be", Runs.nodes(n, 48), "cone 95", 47 - n);
            Run one = Run.of("inputs " + n).times(47 - n, "gate 2 2");
            EDGES.asks("13: the last of many that hang on none", one, "cone 95", 1);
        }
        Run low = Run.of("inputs 1").times(45, "gate 2 2").then("gate 4 92");
        EDGES.asks("13: the first and the last GATE", low, "cone 94", 3);
    }

    private static void coneOfLiteralsThere() {
        literals("13: a LITERAL there", "cone", "");
    }

    // ---- 14: "The i-th OUT of SIDE s; NONE: not so many. BAD: i below 0, too."

    private static void outsOfSidesThere() {
        for (Run x : new Run[] {Runs.fresh(), Runs.some(), Runs.full(3)}) {
            for (int s : new int[] {-1, -2, 2, 3}) {
                for (int i : new int[] {-1, 0, 5, 6}) {
                    EDGES.refuses("14: no SIDE", x, "outs " + s + " " + i, BAD);
                }
            }
        }
    }

    private static void outsBehindTheLast() {
        for (int s = 0; s <= 1; s++) {
            EDGES.asks("14: NONE at all", Runs.fresh(), "outs " + s + " 0", NONE);
            EDGES.asks("14: NONE on this SIDE", Run.of("out " + (1 - s) + " 4"), "outs " + s + " 0", NONE);
            Run x = Run.of("out " + s + " 7");
            EDGES.asksEach("14: one and no more", x, "outs " + s, 7, NONE, NONE);
            x = x.then("out " + s + " 1", "out " + s + " 7", "out " + s + " 0", "out " + s + " 2");
            EDGES.asksEach("14: five and no more", x, "outs " + s, 7, 1, 7, 0, 2, NONE, NONE);
            EDGES.asksEach("14: six and no more", x.then("out " + s + " 5"), "outs " + s, 7, 1, 7, 0, 2, 5, NONE, NONE);
            EDGES.asks("14: far behind", Runs.full(2), "outs " + s + " 12", NONE);
        }
        EDGES.asksEach("14: SIDE 0, full", Runs.full(2), "outs 0", 95, 94, 93, 92, 91, 90, NONE);
        EDGES.asksEach("14: SIDE 1, full", Runs.full(2), "outs 1", 90, 91, 92, 93, 94, 95, NONE);
    }

    private static void outsBelowZero() {
        for (Run x : new Run[] {Runs.fresh(), Runs.some(), Runs.full(3)}) {
            for (int s = 0; s <= 1; s++) {
                EDGES.refuses("14: i below 0", x, "outs " + s + " -1", BAD);
                EDGES.refuses("14: i below 0", x, "outs " + s + " -6", BAD);
            }
        }
    }

    // ---- 15: "n (what 0), NODES (1), OUTS of SIDE 0 (2), 1 (3), PATTERNS told (4). BAD."

    private static void countOfWhat() {
        for (Run x : new Run[] {Runs.fresh(), Runs.some(), Runs.full(3)}) {
            for (int what : new int[] {-1, -2, 5, 6}) {
                EDGES.refuses("15: what 0 .. 4", x, "count " + what, BAD);
            }
        }
    }

    private static void countAtTheLimits() {
        for (int n = 1; n <= 5; n++) {
            EDGES.asksEach("15: the fullest", Runs.full(n), "count", n, 48, 6, 6, 12);
            EDGES.asksEach("15: the emptiest", Run.of("inputs " + n), "count", n, n + 1, 0, 0, 0);
        }
    }

    // ---- 16: "SIGN of NODE g by the PATTERNS told, bit i the i-th one. BAD."

    private static void signOfNodesThere() {
        for (Run x : sizes()) {
            long nodes = x.answer("count 1");
            for (long g : new long[] {0, nodes - 1}) {
                EDGES.due("16: a NODE there", x.then("sign " + g).answer("told 0"), x.answer("told 0"));
            }
            for (long g : new long[] {-1, -2, nodes, nodes + 1}) {
                EDGES.refuses("16: no NODE", x, "sign " + g, BAD);
            }
        }
    }

    private static void signOfNoPatterns() {
        EDGES.asksEach("16: no PATTERNS", Run.of("gate 1 1"), "sign", 0, 0, 0, 0, 0);
        EDGES.asks("16: none behind inputs()", Run.of("pattern 7", "inputs 3"), "sign 1", 0);
        EDGES.asks("16: none behind back()", Run.of("pattern 7", "back"), "sign 1", 0);
    }

    private static void signOfTwelvePatterns() {
        Run x = Run.of("inputs 5", "gate 1 1").times(11, "pattern 0").then("pattern 31");
        EDGES.asksEach("16: bit 11 the last", x, "sign", 0, 1 << 11, 1 << 11, 1 << 11, 1 << 11, 1 << 11, 0xFFF);
        Run y = Run.of("inputs 5", "pattern 31").times(11, "pattern 15");
        EDGES.asks("16: bit 0 the first", y, "sign 5", 1);
        EDGES.asks("16: each bit", y, "sign 4", 0xFFF);
    }

    private static void signByToldPatternsAlone() {
        Run x = Run.of("gate 2 4", "form 4");
        EDGES.due("16: THE SWEEP has some", x.answer("swept 5"), 4);
        EDGES.asksEach("16: which are not told", x, "sign", 0, 0, 0, 0, 0);
    }
}
