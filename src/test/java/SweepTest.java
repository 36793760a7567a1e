/** Promises 17 to 23: THE SWEEP, and OUTS by it. */
public final class SweepTest {
    private static final Check CHECK = new Check();

    public static void main(String[] args) {
        rules();
        rulesThroughForms();
        sameGates();
        checksFromNoPattern();
        checksByToldPatterns();
        turnedMerge();
        falseByCheck();
        inputByCheck();
        patternsFull();
        lastPattern();
        lines();
        rows();
        outsAlike();
        verdicts();
        fiveInputs();
        CHECK.end();
    }

    private static void forms(String what, SweptGates x, int from, int... want) {
        for (int i = 0; i < want.length; i++) {
            CHECK.due(what + " form(" + (from + i) + ")", x.form(from + i), want[i]);
        }
    }

    private static void tally(String what, SweptGates x, int... want) {
        for (int i = 0; i < want.length; i++) {
            CHECK.due(what + " swept(" + i + ")", x.swept(i), want[i]);
        }
    }

    private static void rowsAre(String what, SweptGates x, int... want) {
        for (int i = 0; i < want.length; i++) {
            CHECK.due(what + " row(" + i + ")", x.row(i), want[i]);
        }
        CHECK.due(what + " row(" + want.length + ")", x.row(want.length), SweptGates.NONE);
    }

    private static void rules() {
        SweptGates x = new SweptGates();
        int[][] gates = {{0, 2}, {3, 0}, {0, 1}, {1, 1}, {1, 5}, {4, 1}, {5, 5}, {4, 4}, {2, 3}, {7, 6}, {0, 0}};
        for (int[] g : gates) {
            x.gate(g[0], g[1]);
        }
        forms("17: by RULES", x, 0, 0, 2, 4, 6);
        forms("17: by RULES", x, 4, 0, 0, 0, 1, 5, 4, 5, 4, 0, 0, 0);
        tally("19: by RULES", x, 0, 11, 0, 0, 0, 0);
    }

    /** a odd and b one more is no turned pair: NOT x1 and x2 is looked at. */
    private static void rulesThroughForms() {
        SweptGates x = new SweptGates();
        x.gate(3, 4);
        x.gate(1, 3);
        x.gate(10, 3);
        x.gate(11, 10);
        forms("17: through FORMS", x, 4, 8, 3, 3, 0);
        tally("19: through FORMS", x, 1, 3, 0, 0);
    }

    private static void sameGates() {
        SweptGates x = new SweptGates();
        x.gate(2, 5);
        x.gate(5, 2);
        x.gate(2, 2);
        x.gate(12, 5);
        x.gate(2, 4);
        forms("17: by GATES there already", x, 4, 8, 8, 2, 8, 16);
        tally("19: by GATES there already", x, 2, 1, 2, 0);
    }

    /** FALSE alike, then turned by its own ROW; both INPUTS alike; the third neither. */
    private static void checksFromNoPattern() {
        SweptGates x = new SweptGates();
        x.gate(2, 4);
        forms("17: from no PATTERN", x, 4, 8);
        tally("19: from no PATTERN", x, 1, 0, 0, 0, 4, 4);
        rowsAre("20: from no PATTERN", x, 3, 0, 1, 2);
        CHECK.due("16: these are not told ones", x.count(4), 0);
        CHECK.due("16: nor in SIGN", x.sign(4), 0);
    }

    /** ROW 3 told: FALSE is turned at once; then as PATTERNS come. */
    private static void checksByToldPatterns() {
        SweptGates x = new SweptGates();
        x.gate(2, 4);
        x.pattern(3);
        tally("19: ROW 3 told", x, 1, 0, 0, 0, 3, 4);
        rowsAre("20: ROW 3 told", x, 3, 0, 1, 2);
        CHECK.due("15: one told", x.count(4), 1);
        SweptGates y = new SweptGates();
        y.gate(2, 4);
        y.pattern(0);
        tally("19: ROW 0 told", y, 1, 0, 0, 0, 3, 4);
        rowsAre("20: ROW 0 told", y, 0, 3, 1, 2);
        SweptGates z = new SweptGates();
        z.gate(2, 4);
        z.pattern(1);
        z.pattern(2);
        z.pattern(3);
        z.pattern(0);
        tally("19: all told", z, 1, 0, 0, 0, 0, 4);
    }

    private static SweptGates exclusive() {
        SweptGates x = new SweptGates();
        x.inputs(2);
        x.gate(2, 4);
        x.gate(3, 5);
        x.gate(7, 9);
        x.gate(2, 5);
        x.gate(3, 4);
        x.gate(13, 15);
        return x;
    }

    private static void turnedMerge() {
        SweptGates x = exclusive();
        forms("17: turned", x, 3, 6, 8, 10, 12, 14, 11);
        CHECK.due("18: one LINE", x.lines(-1, 0), 1);
        CHECK.due("18: its GATE", x.lines(0, 0), 8);
        CHECK.due("18: its FORM", x.lines(0, 1), 11);
        CHECK.due("18: why", x.lines(0, 2), 3);
        tally("19: turned", x, 5, 0, 0, 1);
        x.gate(17, 2);
        x.gate(10, 2);
        forms("17: a turned FORM turned once more", x, 9, 12, 12);
    }

    private static void falseByCheck() {
        SweptGates x = new SweptGates();
        x.gate(2, 4);
        x.gate(3, 6);
        x.gate(8, 10);
        x.gate(13, 4);
        forms("17: FALSE, no rule's", x, 4, 8, 10, 0, 4);
        CHECK.due("18: by a CHECK", x.lines(0, 2), 3);
        CHECK.due("18: then by a rule", x.lines(1, 2), 1);
    }

    private static void inputByCheck() {
        SweptGates x = new SweptGates();
        x.gate(2, 4);
        x.gate(2, 5);
        x.gate(9, 11);
        x.gate(12, 2);
        forms("17: INPUT 1 turned", x, 6, 3, 0);
        CHECK.due("18: by a CHECK", x.lines(0, 2), 3);
    }

    private static SweptGates withZeros(int many) {
        SweptGates x = new SweptGates();
        for (int i = 0; i < many; i++) {
            x.pattern(0);
        }
        x.gate(2, 4);
        return x;
    }

    private static void patternsFull() {
        SweptGates x = withZeros(12);
        tally("19: no PATTERN more", x, 1, 0, 0, 0, 4, 12);
        CHECK.due("20: the last", x.row(11), 0);
        CHECK.due("20: no more", x.row(12), SweptGates.NONE);
        x.gate(2, 5);
        tally("19: each NODE that is alike is CHECKED", x, 2, 0, 0, 0, 9, 12);
    }

    private static void lastPattern() {
        SweptGates x = withZeros(11);
        tally("19: one PATTERN more", x, 1, 0, 0, 0, 3, 12);
        CHECK.due("20: the 12th", x.row(11), 3);
    }

    private static void lines() {
        SweptGates x = new SweptGates();
        CHECK.due("18: no LINES", x.lines(-1, 0), 0);
        CHECK.due("18: not so many", x.lines(0, 0), -5);
        x.gate(2, 2);
        x.gate(2, 4);
        x.gate(8, 4);
        x.gate(10, 2);
        int[][] due = {{4, 2, 1}, {6, 10, 2}, {7, 10, 3}};
        CHECK.due("18: LINES", x.lines(-1, 0), 3);
        for (int i = 0; i < 3; i++) {
            for (int what = 0; what < 3; what++) {
                CHECK.due("18: lines(" + i + ", " + what + ")", x.lines(i, what), due[i][what]);
            }
        }
        for (int what = 0; what < 3; what++) {
            CHECK.due("18: behind the last", x.lines(3, what), -5);
            CHECK.due("18: far behind", x.lines(Integer.MAX_VALUE, what), -5);
        }
        CHECK.due("18: none is refused", x.told(0), 0);
    }

    private static void rows() {
        SweptGates x = new SweptGates();
        x.pattern(6);
        x.pattern(6);
        rowsAre("20: told ones alone", x, 6, 6);
        CHECK.due("19: PATTERNS behind it", x.swept(5), 2);
        CHECK.due("20: far behind", x.row(Integer.MAX_VALUE), SweptGates.NONE);
        x.gate(2, 4);
        CHECK.due("20: told ones first", x.row(1), 6);
        CHECK.due("20: then the first that came", x.row(2), 3);
    }

    private static void outsAlike() {
        SweptGates x = exclusive();
        x.out(0, 10);
        x.out(1, 17);
        x.out(0, 10);
        x.out(1, 16);
        x.out(0, 2);
        x.out(1, 4);
        x.out(0, 6);
        int[] alike = {1, 0, 0};
        int[] witness = {SweptGates.NONE, 0, 1};
        for (int i = 0; i < 3; i++) {
            CHECK.due("21: alike(" + i + ")", x.alike(i), alike[i]);
            CHECK.due("22: witness(" + i + ")", x.witness(i), witness[i]);
        }
        CHECK.due("21: on one SIDE alone", x.alike(3), SweptGates.BAD);
        CHECK.due("22: on one SIDE alone", x.witness(3), SweptGates.BAD);
        x.back();
        x.out(1, 6);
        x.out(1, 6);
        CHECK.due("21: on the other SIDE alone", x.alike(3), SweptGates.BAD);
        CHECK.due("22: on the other SIDE alone", x.witness(3), SweptGates.BAD);
        CHECK.due("22: the last ROW", last(), 31);
    }

    private static int last() {
        SweptGates x = new SweptGates();
        x.inputs(5);
        x.gate(2, 4);
        x.gate(6, 8);
        x.gate(12, 14);
        x.gate(16, 10);
        x.out(0, 18);
        x.out(1, 0);
        return x.witness(0);
    }

    private static void verdicts() {
        SweptGates x = exclusive();
        CHECK.due("23: no OUTS", x.verdict(), 1);
        x.out(0, 11);
        CHECK.due("23: one and none", x.verdict(), SweptGates.NONE);
        x.out(1, 16);
        CHECK.due("23: alike", x.verdict(), 1);
        x.out(1, 2);
        CHECK.due("23: one and two", x.verdict(), SweptGates.NONE);
        x.out(0, 3);
        CHECK.due("23: the last not alike", x.verdict(), 0);
        x.out(0, 4);
        x.out(1, 4);
        CHECK.due("23: not alike, then alike", x.verdict(), 0);
        SweptGates y = exclusive();
        y.out(0, 10);
        y.out(1, 16);
        y.out(0, 2);
        y.out(1, 2);
        CHECK.due("23: the first alone not alike", y.verdict(), 0);
    }

    /** Both ways to take the greater number of ones of five, by 32 ROWS. */
    private static void fiveInputs() {
        SweptGates x = new SweptGates();
        x.inputs(5);
        int odd = 2;
        for (int k = 2; k <= 5; k++) {
            odd = x.xor(odd, 2 * k);
        }
        int other = 10;
        for (int k = 4; k >= 1; k--) {
            other = x.xor(2 * k, other);
        }
        x.out(0, odd);
        x.out(1, other);
        CHECK.due("10: both have one TABLE", x.table(odd), x.table(other));
        CHECK.due("23: of five", x.verdict(), 1);
        CHECK.due("22: of five", x.witness(0), SweptGates.NONE);
        x.settles();
        CHECK.due("8: one GATE at the end", x.outs(0, 0), x.outs(1, 0));
    }

}
