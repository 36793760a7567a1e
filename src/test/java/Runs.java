/** Runs that many tests begin with. */
final class Runs {
    /** Of five inputs, so that it can be done in any state; fills THE TEXT to its last byte. */
    static final String LONGEST_TEXT = longest("i5;x2 11;g12 3;o1 13;p31;p7;m2 4 16;");

    private Runs() {
    }

    static Run fresh() {
        return Run.of();
    }

    /** Something of all: GATES, one of them merged; OUTS, PATTERNS, five STATES, a text, refusals of each kind. */
    static Run some() {
        return Run.of("back", "gate 4 2", "gate 2 4", "gate 9 7", "out 0 8", "out 1 11", "pattern 3", "pattern 3")
            .then("table -1").types("g12 3;p1;");
    }

    /** n INPUTS, and GATES until there are so many NODES. */
    static Run nodes(int n, int many) {
        Run run = Run.of("inputs " + n);
        for (int g = n + 1; g < many; g++) {
            run = run.then("gate " + (2 * g - 1) + " " + (2 * g - 4));
        }
        return run;
    }

    /** 48 NODES, 6 OUTS a SIDE, 12 PATTERNS, 150 bytes, 5 STATES. */
    static Run full(int n) {
        Run run = nodes(n, 48);
        for (int i = 0; i < 6; i++) {
            run = run.then("out 0 " + (95 - i), "out 1 " + (90 + i));
        }
        int last = (1 << n) - 1;
        return run.times(11, "pattern " + last).then("pattern 0").types(LONGEST_TEXT);
    }

    /** A text with blanks behind it up to 150 bytes. */
    static String longest(String text) {
        return text + " ".repeat(150 - text.length());
    }
}
