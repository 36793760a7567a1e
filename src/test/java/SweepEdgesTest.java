/** The edges of THE SWEEP and of promises 17 to 23, each by the sentence that names it. */
public final class SweepEdgesTest {
    private static final int BAD = Edges.BAD, NONE = Edges.NONE, NOT_SO_MANY = -5;
    private static final Edges EDGES = new Edges();

    public static void main(String[] args) {
        nodesThatAreAlwaysKept();
        rulesAtFalseAndTrue();
        rulesAtEachEnd();
        ruleOfTurnedNeedsEven();
        rulesByForms();
        sameGateEitherWay();
        sameGateMustBeKept();
        sameGateOfJustThese();
        sameGateOfAnOldSweep();
        checkWithNoPatternsYet();
        checkTurnedOnce();
        checkAlikeOnceBehindPatterns();
        checksAsPatternsAreThen();
        patternsFewerThanTwelve();
        turnedWherePatternsAreFull();
        lookingEnds();
        toldPatternsStay();
        sweptAnewBehindEachCall();
        formOfNodesThere();
        linesNone();
        linesBehindTheLast();
        linesAsManyAsCanBe();
        linesBelowNone();
        linesOfWhat();
        sweptOfWhat();
        sweptAsManyAsCanBe();
        rowsBehindTheLast();
        rowsBelowZero();
        pairsNotSoManyOnASide();
        pairsTheLastOfSix();
        alikeTurned();
        witnessTheLeastRow();
        verdictOfNoOuts();
        verdictOfSix();
        verdictNotAsMany();
        EDGES.end();
    }

    private static void tally(String what, Run x, long... due) {
        EDGES.asksEach(what, x, "swept", due);
    }

    private static void line(String what, Run x, int i, long... due) {
        EDGES.asksEach(what, x, "lines " + i, due);
    }

    /** All PATTERNS behind THE SWEEP, and no more. */
    private static void rows(String what, Run x, long... due) {
        EDGES.asksEach(what, x, "row", due);
        EDGES.asks(what, x, "row " + due.length, NONE);
        EDGES.asks(what, x, "swept 5", due.length);
    }

    // ---- THE SWEEP: "NODE 0 and INPUTS are KEPT, FORM 2 times the NODE"

    private static void nodesThatAreAlwaysKept() {
        for (int n = 1; n <= 5; n++) {
            for (Run x : new Run[] {Run.of("inputs " + n), Runs.full(n)}) {
                EDGES.asks("NODE 0 is KEPT", x, "form 0", 0);
                EDGES.asks("the first INPUT is KEPT", x, "form 1", 2);
                EDGES.asks("the last INPUT is KEPT", x, "form " + n, 2 * n);
            }
            tally("these are no KEPT GATES", Run.of("inputs " + n), 0, 0, 0, 0, 0, 0);
        }
    }

    // ---- "(1) RULES: a is 0: FORM 0. a is 1: FORM b. a is b: FORM a. b is a turned (a + 1, a being even): FORM 0."

    private static void rule(String what, int a, int b, int form) {
        for (String pair : new String[] {a + " " + b, b + " " + a}) {
            Run x = Run.of("gate " + pair);
            EDGES.asks(what + " of " + pair, x, "form 4", form);
            line(what + " of " + pair, x, 0, 4, form, 1);
            tally(what + " of " + pair, x, 0, 1, 0, 0, 0, 0);
        }
    }

    private static void rulesAtFalseAndTrue() {
        rule("a is 0, and b too", 0, 0, 0);
        rule("a is 0, b is 1", 0, 1, 0);
        rule("a is 1, and b too", 1, 1, 1);
        for (int n = 1; n <= 5; n++) {
            Run x = Run.of("inputs " + n, "gate 1 1", "gate 0 0", "gate 0 1");
            EDGES.asks("TRUE of " + n, x, "form " + (n + 1), 1);
            EDGES.asks("FALSE of " + n, x, "form " + (n + 2), 0);
            EDGES.asks("FALSE of " + n, x, "form " + (n + 3), 0);
        }
    }

    private static void rulesAtEachEnd() {
        for (int l = 2; l <= 7; l++) {
            rule("a is 0", 0, l, 0);
            rule("a is 1: FORM b", 1, l, l);
            rule("a is b: FORM a", l, l, l);
            rule("b is a turned", l, l ^ 1, 0);
        }
    }

    private static void ruleOfTurnedNeedsEven() {
        for (String pair : new String[] {"3 4", "4 3", "5 6", "6 5"}) {
            Run x = Run.of("gate " + pair);
            EDGES.asks("a + 1, but a is odd: " + pair, x, "form 4", 8);
            EDGES.asks("a + 1, but a is odd: " + pair, x, "lines -1 0", 0);
            EDGES.asks("a + 1, but a is odd: " + pair, x, "swept 0", 1);
        }
        Run x = Run.of("gate 2 4", "gate 7 8");
        EDGES.asks("INPUT 3 turned and the GATE behind it", x, "form 5", 10);
    }

    /** a, b are the FORMS of their NODES, turned if they are. */
    private static void rulesByForms() {
        Run x = Run.of("gate 1 1", "gate 0 2", "gate 9 4", "gate 8 4", "gate 11 4", "gate 10 4", "gate 8 9", "gate 4 15");
        long[] forms = {1, 0, 0, 4, 4, 0, 0, 0};
        for (int i = 0; i < forms.length; i++) {
            EDGES.asks("a RULE by FORMS", x, "form " + (4 + i), forms[i]);
            line("a RULE by FORMS", x, i, 4 + i, forms[i], 1);
        }
        tally("no CHECK by RULES", x, 0, 8, 0, 0, 0, 0);
    }

    // ---- "(2) a KEPT GATE that had just these a, b: FORM is it."

    private static void sameGateEitherWay() {
        Run x = Run.of("inputs 2", "gate 4 3", "gate 4 3", "gate 3 4", "gate 1 3", "gate 10 4", "gate 12 12");
        line("the same", x, 0, 4, 6, 2);
        line("the other way", x, 1, 5, 6, 2);
        line("by a RULE", x, 2, 6, 3, 1);
        Run y = Run.of("inputs 2", "gate 4 3", "gate 1 3", "gate 8 4");
        line("the same by FORMS", y, 1, 5, 6, 2);
        EDGES.asks("no CHECK but those of the first", y, "swept 4", Run.of("inputs 2", "gate 4 3").answer("swept 4"));
    }

    /** One that is merged by a CHECK is no KEPT GATE: the same once more is LOOKED AT again. */
    private static void sameGateMustBeKept() {
        Run x = Run.of("inputs 2", "gate 2 4", "gate 6 2");
        line("merged by a CHECK", x, 0, 4, 6, 3);
        long checks = x.answer("swept 4");
        Run y = x.then("gate 6 2");
        line("LOOKED AT again", y, 1, 5, 6, 3);
        EDGES.asks("a CHECK more", y, "swept 4", checks + 1);
        EDGES.asks("none by a KEPT GATE", y, "swept 2", 0);
    }

    private static void sameGateOfJustThese() {
        Run x = Run.of("inputs 2", "gate 2 4", "gate 2 5", "gate 3 4", "gate 3 5");
        for (int g = 3; g <= 6; g++) {
            EDGES.asks("not just these", x, "form " + g, 2 * g);
        }
        EDGES.asks("not just these", x, "lines -1 0", 0);
    }

    /** NODES that were GATES, and are INPUTS now, are found no more. */
    private static void sameGateOfAnOldSweep() {
        for (int few = 2; few <= 4; few++) {
            for (int more = few + 1; more <= 5; more++) {
                Run x = Run.of("inputs " + few).times(4, "gate 2 4").then("form " + (few + 1), "inputs " + more, "gate 2 4");
                EDGES.asks("a GATE of an old sweep", x, "form " + (more + 1), 2 * (more + 1));
                EDGES.asks("a GATE of an old sweep", x, "lines -1 0", 0);
                EDGES.holds("as if there had been none", Seen.of(x).sameCircuit(Seen.of(Run.of("inputs " + more, "gate 2 4"))));
                EDGES.due("nor behind settles()", x.then("form 1", "settles", "form 1", "gate 4 2").answer("swept 2"), 1);
            }
        }
    }

    // ---- "(3) .. as it, if SIGNS are alike (also if there are no PATTERNS yet), else turned: a CHECK"

    /** NODE 0 alike, then turned by its own ROW; INPUT 1 turned; INPUT 2 is neither by then. */
    private static void checkWithNoPatternsYet() {
        Run x = Run.of("inputs 2", "gate 3 5");
        tally("no PATTERNS yet", x, 1, 0, 0, 0, 3, 3);
        rows("no PATTERNS yet", x, 0, 1, 2);
        Run last = Run.of("inputs 5", "gate 2 4", "gate 6 8", "gate 10 12", "gate 14 16").then("settles");
        EDGES.due("all ROWS are looked at", last.answer("table 18"), Integer.MIN_VALUE);
    }

    /** "then the same NODE is CHECKED once more, turned the other way, if their SIGNS are so now" */
    private static void checkTurnedOnce() {
        Run x = Run.of("inputs 2", "gate 2 4");
        tally("alike, then turned", x, 1, 0, 0, 0, 4, 4);
        rows("alike, then turned", x, 3, 0, 1, 2);
        Run y = x.then("pattern 3");
        tally("turned from the first", y, 1, 0, 0, 0, 3, 4);
        rows("turned from the first", y, 3, 0, 1, 2);
    }

    private static void checkAlikeOnceBehindPatterns() {
        Run x = Run.of("inputs 2", "gate 2 4", "pattern 0");
        tally("alike, not turned behind it", x, 1, 0, 0, 0, 3, 4);
        rows("alike, not turned behind it", x, 0, 3, 1, 2);
    }

    /** As PATTERNS are when its turn comes: INPUT 3 is split off by what INPUTS 1 and 2 left. */
    private static void checksAsPatternsAreThen() {
        Run x = Run.of("gate 2 4", "pattern 0");
        tally("INPUT 3 is not CHECKED", x, 1, 0, 0, 0, 3, 4);
        Run y = Run.of("gate 2 4", "pattern 1", "pattern 2", "pattern 3", "pattern 0");
        tally("no NODE is CHECKED", y, 1, 0, 0, 0, 0, 4);
        Run z = y.then("gate 4 9", "gate 2 11");
        EDGES.asks("one is, behind them", z, "form 6", 2);
        tally("one is, behind them", z, 2, 0, 0, 1, 1, 4);
    }

    /** "comes as a PATTERN, if there are fewer than 12" */
    private static void patternsFewerThanTwelve() {
        long[][] checks = {{8, 3, 11}, {9, 3, 12}, {10, 3, 12}, {11, 3, 12}, {12, 4, 12}};
        long[] came = {3, 1, 2};
        for (long[] row : checks) {
            int told = (int) row[0];
            Run x = Runs.fresh().times(told, "pattern 0").then("gate 2 4");
            tally(told + " PATTERNS told", x, 1, 0, 0, 0, row[1], row[2]);
            for (int i = 0; i < 3; i++) {
                EDGES.asks(told + " PATTERNS told", x, "row " + (told + i), told + i < 12 ? came[i] : NONE);
            }
            EDGES.asks(told + " PATTERNS told", x, "row " + (told - 1), 0);
            EDGES.asks("the told ones stay", x, "count 4", told);
        }
        Run all = Runs.fresh().times(12, "pattern 0").then("gate 2 4", "gate 2 5");
        tally("each that is alike is CHECKED", all, 2, 0, 0, 0, 9, 12);
    }

    private static void turnedWherePatternsAreFull() {
        Run x = Runs.fresh().times(12, "pattern 0").then("gate 3 5");
        tally("each that is turned is CHECKED", x, 1, 0, 0, 0, 4, 12);
        Run y = Run.of("inputs 2").times(12, "pattern 0").then("gate 2 4", "gate 2 5", "gate 7 9");
        EDGES.asks("merged turned", y, "form 5", 3);
        tally("merged turned", y, 2, 0, 0, 1, 9, 12);
    }

    /** "FORM is that NODE, so turned, and the looking ends" */
    private static void lookingEnds() {
        Run x = Run.of("inputs 2").times(12, "pattern 0").then("gate 2 4", "gate 6 2");
        EDGES.asks("the first four, then NODES 0, 1, 2, 3", x, "swept 4", 3 + 4);
        Run y = x.then("gate 3 5", "gate 6 10");
        EDGES.asks("FALSE by the first CHECK", y, "form 6", 0);
        EDGES.asks("FALSE by the first CHECK", y, "swept 4", 3 + 4 + 4 + 1);
    }

    /** "PATTERNS of its own: those told, then those that come by it; the told ones stay" */
    private static void toldPatternsStay() {
        Run x = Run.of("pattern 6", "pattern 6", "gate 2 4", "form 4");
        rows("told ones first", x, 6, 6, 3, 1);
        EDGES.asks("told ones alone", x, "count 4", 2);
        EDGES.asks("told ones alone", x, "sign 2", 0b11);
        EDGES.takes("a told one comes behind told ones", x, "pattern 1", 3);
        EDGES.asks("a told one comes behind told ones", x.then("pattern 1"), "row 2", 1);
        EDGES.due("THE SWEEP has all it can", allKept().answer("swept 5"), 12);
        EDGES.takes("none is told yet", allKept().then("row 11"), "pattern 31", 1);
    }

    /** What was asked before a call must not be what is answered behind it. */
    private static void sweptAnewBehindEachCall() {
        Run x = Run.of("gate 2 4", "out 0 8", "out 1 2", "pattern 3").types("g8 4;o0 9;p1;");
        String[] calls = {"inputs 2", "gate 8 2", "xor 8 2", "mux 8 2 4", "out 0 3", "pattern 0", "settles", "does", "back"};
        for (String call : calls) {
            for (String asked : new String[] {"form 4", "verdict", "digest", "settles"}) {
                Run bare = asked.equals("settles") ? x.then("settles") : x;
                Run looked = asked.equals("settles") ? x.then("form 4", "settles", "form 4") : x.then(asked);
                EDGES.holds("swept anew by " + call + " behind " + asked,
                    Seen.of(bare.then(call)).sameCircuit(Seen.of(looked.then(call))));
                EDGES.due("the digest by " + call + " behind " + asked,
                    looked.then(call).answer("digest"), bare.then(call).answer("digest"));
            }
        }
    }

    // ---- 17: "FORM of NODE g. BAD."

    private static void formOfNodesThere() {
        Run[] runs = {Run.of("inputs 1"), Runs.fresh(), Runs.some(), Runs.full(1), Runs.full(5)};
        for (Run x : runs) {
            long nodes = x.answer("count 1");
            for (long g : new long[] {-1, -2, nodes, nodes + 1}) {
                EDGES.refuses("17: no NODE", x, "form " + g, BAD);
            }
            EDGES.due("17: the last NODE is one", x.then("form " + (nodes - 1)).answer("told 0"), x.answer("told 0"));
        }
        EDGES.asks("17: the last of 48", Run.of("inputs 1").times(46, "gate 3 3"), "form 47", 3);
    }

    // ---- 18: "how many (i NONE, what 0); .. -5: not so many. BAD: i below -1, i NONE and what not 0."

    private static void linesNone() {
        for (Run x : new Run[] {Runs.fresh(), Run.of("inputs 1"), Run.of("xor 2 4"), Runs.full(2).then("inputs 5")}) {
            EDGES.asks("18: no LINES", x, "lines -1 0", 0);
            EDGES.asksEach("18: not so many", x, "lines 0", NOT_SO_MANY, NOT_SO_MANY, NOT_SO_MANY);
        }
    }

    private static void linesBehindTheLast() {
        Run x = Run.of("gate 2 2", "gate 2 4", "gate 8 4", "gate 10 2");
        EDGES.asks("18: how many", x, "lines -1 0", 3);
        line("18: the first", x, 0, 4, 2, 1);
        line("18: the second", x, 1, 6, 10, 2);
        line("18: the last", x, 2, 7, 10, 3);
        for (int i : new int[] {3, 4, 47, 48, 49}) {
            line("18: not so many", x, i, NOT_SO_MANY, NOT_SO_MANY, NOT_SO_MANY);
        }
    }

    private static void linesAsManyAsCanBe() {
        for (int n = 1; n <= 5; n++) {
            Run x = Run.of("inputs " + n).times(47 - n, "gate 3 1");
            EDGES.asks("18: one of each GATE", x, "lines -1 0", 47 - n);
            line("18: the first", x, 0, n + 1, 3, 1);
            line("18: the last", x, 46 - n, 47, 3, 1);
            line("18: not so many", x, 47 - n, NOT_SO_MANY, NOT_SO_MANY, NOT_SO_MANY);
        }
    }

    private static void linesBelowNone() {
        for (Run x : new Run[] {Runs.fresh(), Runs.some(), Runs.full(1)}) {
            for (int what = -1; what <= 3; what++) {
                EDGES.refuses("18: i below -1", x, "lines -2 " + what, BAD);
                EDGES.refuses("18: i below -1", x, "lines -3 " + what, BAD);
                if (what != 0) {
                    EDGES.refuses("18: i NONE and what not 0", x, "lines -1 " + what, BAD);
                }
            }
        }
    }

    private static void linesOfWhat() {
        for (Run x : new Run[] {Runs.fresh(), Runs.some(), Runs.full(1)}) {
            for (int i : new int[] {0, 1, 45, 46, 47}) {
                EDGES.refuses("18: what 0 .. 2", x, "lines " + i + " -1", BAD);
                EDGES.refuses("18: what 0 .. 2", x, "lines " + i + " 3", BAD);
            }
        }
    }

    // ---- 19: "KEPT GATES (what 0), .. PATTERNS behind it (5). BAD."

    private static void sweptOfWhat() {
        for (Run x : new Run[] {Runs.fresh(), Runs.some(), Runs.full(1)}) {
            for (int what : new int[] {-1, -2, 6, 7}) {
                EDGES.refuses("19: what 0 .. 5", x, "swept " + what, BAD);
            }
        }
    }

    /** 42 GATES of five INPUTS, no two of them alike. */
    private static Run allKept() {
        Run x = Run.of("inputs 5");
        for (int k = 1; k <= 5; k++) {
            for (int m = k + 1; m <= 5; m++) {
                x = x.then("gate " + 2 * k + " " + 2 * m, "gate " + 2 * k + " " + (2 * m + 1))
                    .then("gate " + (2 * k + 1) + " " + 2 * m, "gate " + (2 * k + 1) + " " + (2 * m + 1));
            }
        }
        return x.then("gate 12 6", "gate 12 7");
    }

    private static void sweptAsManyAsCanBe() {
        tally("19: all by RULES", Run.of("inputs 1").times(46, "gate 2 2"), 0, 46, 0, 0, 0, 0);
        tally("19: all but one by the same", Run.of("inputs 2").times(45, "gate 2 4"), 1, 0, 44, 0, 4, 4);
        tally("19: all but one by CHECKS", Run.of("inputs 2", "gate 2 4").times(44, "gate 2 6"), 1, 0, 0, 44, 4 + 44, 4);
        Run x = allKept();
        EDGES.asks("19: 48 NODES", x, "count 1", 48);
        EDGES.asksEach("19: all KEPT", x, "swept", 42, 0, 0, 0);
        EDGES.asks("19: all PATTERNS there can be", x, "swept 5", 12);
        EDGES.asks("19: the last one's FORM", x, "form 47", 94);
        EDGES.takes("19: none goes", x, "settles", 0);
    }

    // ---- 20: "The i-th PATTERN behind THE SWEEP (told ones first); NONE: not so many. BAD: i below 0."

    private static void rowsBehindTheLast() {
        EDGES.asks("20: NONE at all", Runs.fresh(), "row 0", NONE);
        EDGES.asks("20: NONE by RULES", Run.of("gate 2 2"), "row 0", NONE);
        rows("20: one told", Run.of("pattern 7"), 7);
        rows("20: of a GATE", Run.of("inputs 2", "gate 2 4"), 3, 0, 1, 2);
        rows("20: the 12th", Run.of("inputs 5").times(11, "pattern 31").then("pattern 0"),
            31, 31, 31, 31, 31, 31, 31, 31, 31, 31, 31, 0);
        for (int i : new int[] {12, 13, 31, 32, 48}) {
            EDGES.asks("20: not so many", Runs.full(5), "row " + i, NONE);
        }
        EDGES.asks("20: the last of the fullest", Runs.full(5), "row 11", 0);
        EDGES.asks("20: the first of the fullest", Runs.full(5), "row 0", 31);
    }

    private static void rowsBelowZero() {
        for (Run x : new Run[] {Runs.fresh(), Runs.some(), Runs.full(5)}) {
            EDGES.refuses("20: i below 0", x, "row -1", BAD);
            EDGES.refuses("20: i below 0", x, "row -2", BAD);
            EDGES.refuses("20: i below 0", x, "row -12", BAD);
        }
    }

    // ---- 21, 22: "BAD: not so many on a SIDE, too." "BAD, likewise."

    private static void noPair(Run x, int i) {
        EDGES.refuses("21: not so many on a SIDE", x, "alike " + i, BAD);
        EDGES.refuses("22: not so many on a SIDE", x, "witness " + i, BAD);
    }

    private static void pairsNotSoManyOnASide() {
        for (int i : new int[] {-1, 0, 1, 6}) {
            noPair(Runs.fresh(), i);
            noPair(Run.of("out 0 2"), i);
            noPair(Run.of("out 1 2"), i);
        }
        Run x = Run.of("out 0 2", "out 1 2");
        EDGES.asks("21: the one pair", x, "alike 0", 1);
        EDGES.asks("22: the one pair", x, "witness 0", NONE);
        noPair(x, 1);
        noPair(x.then("out 0 3"), 1);
        noPair(x.then("out 1 3"), 1);
        noPair(x, -1);
        noPair(x, -2);
    }

    private static void pairsTheLastOfSix() {
        Run x = Runs.fresh();
        for (int i = 0; i < 5; i++) {
            x = x.then("out 0 2", "out 1 2");
        }
        noPair(x.then("out 0 4"), 5);
        noPair(x.then("out 1 4"), 5);
        Run six = x.then("out 0 4", "out 1 6");
        EDGES.asksEach("21: six pairs", six, "alike", 1, 1, 1, 1, 1, 0);
        EDGES.asksEach("22: six pairs", six, "witness", NONE, NONE, NONE, NONE, NONE, 2);
        for (int i : new int[] {-1, 6, 7, 12}) {
            noPair(six, i);
            noPair(Runs.full(3), i);
        }
    }

    /** "ALIKE are two LITERALS with one FORM (each turned, if it is)." */
    private static void alikeTurned() {
        String[] gates = {"inputs 2", "gate 2 4", "gate 3 5", "gate 7 9", "gate 2 5", "gate 3 4", "gate 13 15", "gate 1 1"};
        int[][] pairs = {{10, 17, 1}, {11, 16, 1}, {10, 16, 0}, {11, 17, 0}, {0, 1, 0}, {1, 0, 0}, {0, 0, 1}, {1, 1, 1},
            {18, 1, 1}, {19, 0, 1}, {18, 0, 0}, {2, 3, 0}, {2, 2, 1}, {3, 3, 1}};
        for (int[] pair : pairs) {
            Run x = Run.of(gates).then("out 0 " + pair[0], "out 1 " + pair[1]);
            EDGES.asks("21: " + pair[0] + " and " + pair[1], x, "alike 0", pair[2]);
            EDGES.asks("22: " + pair[0] + " and " + pair[1], x, "witness 0", pair[2] == 1 ? NONE : 0);
            EDGES.asks("23: " + pair[0] + " and " + pair[1], x, "verdict", pair[2]);
        }
    }

    private static void witness(String what, Run x, int first, int second, int row) {
        EDGES.asks(what, x.then("out 0 " + first, "out 1 " + second), "witness 0", row);
        EDGES.asks(what, x.then("out 0 " + second, "out 1 " + first), "witness 0", row);
    }

    private static void witnessTheLeastRow() {
        for (int n = 1; n <= 5; n++) {
            Run x = Run.of("inputs " + n);
            witness("22: in each ROW", x, 0, 1, 0);
            witness("22: in each ROW", x, 2 * n, 2 * n + 1, 0);
            witness("22: ROW 0 is not one", x, 0, 2, 1);
            witness("22: the least half", x, 0, 2 * n, 1 << n - 1);
            witness("22: the other half", x, 1, 2 * n, 0);
        }
        Run x = Run.of("inputs 5", "gate 2 4", "gate 6 8", "gate 12 14", "gate 16 10");
        witness("22: the last ROW alone", x, 0, 18, 31);
        witness("22: all but the last", x, 1, 18, 0);
        witness("22: the last ROW alone, true ahead of it", x, 1, 19, 31);
        witness("22: ROW 15 and 31", x, 0, 16, 15);
        witness("22: the last but one", x.then("gate 13 14", "gate 4 20", "gate 22 10"), 0, 24, 30);
        for (int r = 0; r <= 7; r++) {
            EDGES.asks("22: by all ROWS, whatever was told", Run.of("pattern " + r, "out 0 2", "out 1 4"), "witness 0", 1);
        }
    }

    // ---- 23: "1: both SIDES have as many OUTS, all ALIKE; 0: they have as many, some not; NONE: not as many."

    private static void verdictOfNoOuts() {
        for (Run x : new Run[] {Runs.fresh(), Run.of("inputs 1"), Run.of("gate 2 4"), Runs.full(4).then("inputs 2")}) {
            EDGES.asks("23: as many, as none", x, "verdict", 1);
        }
    }

    /** Six pairs of which one alone, each in its turn, is not alike. */
    private static void verdictOfSix() {
        for (int odd = -1; odd < 6; odd++) {
            Run x = Run.of("gate 2 4", "gate 4 8");
            for (int i = 0; i < 6; i++) {
                x = x.then("out 0 8", "out 1 " + (i == odd ? 9 : 10));
            }
            EDGES.asks("23: all but " + odd, x, "verdict", odd < 0 ? 1 : 0);
        }
    }

    private static void verdictNotAsMany() {
        for (int s = 0; s <= 1; s++) {
            for (int many = 1; many <= 6; many++) {
                Run x = Runs.fresh().times(many, "out " + s + " 2");
                EDGES.asks("23: " + many + " and none", x, "verdict", NONE);
                Run y = x.times(many - 1, "out " + (1 - s) + " 2");
                EDGES.asks("23: " + many + " and one less", y, "verdict", NONE);
                EDGES.asks("23: as many, some not", y.then("out " + (1 - s) + " 3"), "verdict", 0);
                EDGES.asks("23: as many, all", y.then("out " + (1 - s) + " 2"), "verdict", 1);
            }
            Run x = Run.of("out 0 2", "out 1 3", "out " + s + " 2");
            EDGES.asks("23: not as many, and not alike", x, "verdict", NONE);
        }
    }
}
