/** Promises 1 to 8: a new object, and the calls that make circuits. */
public final class CircuitsTest {
    private static final Check CHECK = new Check();

    public static void main(String[] args) {
        newObject();
        inputs();
        inputsForgetAll();
        gate();
        xor();
        mux();
        out();
        pattern();
        settlesMerged();
        settlesOutsAndPatterns();
        settlesOrdersLiterals();
        CHECK.end();
    }

    private static void newObject() {
        SweptGates x = new SweptGates();
        int[] counts = {3, 4, 0, 0, 0};
        for (int i = 0; i <= 4; i++) {
            CHECK.due("1: count(" + i + ")", x.count(i), counts[i]);
            CHECK.due("1: told(" + i + ")", x.told(i), 0);
        }
        int[] tables = {0, 0xAA, 0xCC, 0xF0};
        for (int g = 0; g <= 3; g++) {
            CHECK.due("1: table(" + 2 * g + ")", x.table(2 * g), tables[g]);
            CHECK.due("1: form(" + g + ")", x.form(g), 2 * g);
        }
        for (int i = 0; i <= 5; i++) {
            CHECK.due("1: swept(" + i + ")", x.swept(i), 0);
        }
        CHECK.due("1: verdict()", x.verdict(), 1);
        CHECK.due("1: back()", x.back(), SweptGates.NO);
    }

    private static void inputs() {
        SweptGates x = new SweptGates();
        int before = 3;
        for (int v = 1; v <= 5; v++) {
            CHECK.due("2: inputs(" + v + ")", x.inputs(v), before);
            CHECK.due("2: n", x.count(0), v);
            CHECK.due("2: NODES", x.count(1), v + 1);
            CHECK.due("2: TRUE over n " + v, x.table(1), v == 5 ? -1 : (1L << (1 << v)) - 1);
            CHECK.due("2: the last ROW is there", x.pattern((1 << v) - 1), 1);
            before = v;
        }
        SweptGates same = new SweptGates();
        CHECK.due("2: inputs(3) at first", same.inputs(3), 3);
        CHECK.due("2: leaves a STATE though all is as it was", same.told(4), 1);
    }

    private static void inputsForgetAll() {
        SweptGates x = new SweptGates();
        x.xor(2, 4);
        x.out(0, 13);
        x.out(1, 2);
        x.pattern(5);
        CHECK.due("2: inputs(5) behind others", x.inputs(5), 3);
        int[] counts = {5, 6, 0, 0, 0};
        for (int i = 0; i <= 4; i++) {
            CHECK.due("2: then count(" + i + ")", x.count(i), counts[i]);
        }
        for (int k = 1; k <= 5; k++) {
            CHECK.due("2: INPUT " + k + " has no depth where a GATE had", x.depth(2 * k), 0);
            CHECK.due("2: INPUT " + k + " has no cone where a GATE had", x.cone(2 * k), 0);
        }
        CHECK.due("2: INPUT 4 is no GATE", x.of(4, 0), SweptGates.BAD);
        CHECK.due("2: no PATTERN", x.sign(1), 0);
        CHECK.due("2: no OUT", x.outs(0, 0), SweptGates.NONE);
    }

    private static void gate() {
        SweptGates x = new SweptGates();
        CHECK.due("3: gate(2, 5)", x.gate(2, 5), 8);
        CHECK.due("3: a", x.of(4, 0), 2);
        CHECK.due("3: b", x.of(4, 1), 5);
        CHECK.due("3: true if both are", x.table(8), 0x22);
        CHECK.due("3: gate(9, 1) on the newest turned", x.gate(9, 1), 10);
        CHECK.due("3: its TABLE", x.table(10), 0xDD);
        CHECK.due("3: gate(10, 10)", x.gate(10, 10), 12);
        CHECK.due("3: NODES", x.count(1), 7);
        CHECK.due("3: STATES", x.told(4), 3);
    }

    private static void xor() {
        SweptGates x = new SweptGates();
        CHECK.due("4: xor(2, 7)", x.xor(2, 7), 13);
        int[] literals = {2, 6, 3, 7, 9, 11};
        for (int i = 0; i < 6; i++) {
            CHECK.due("4: LITERAL " + i, x.of(4 + i / 2, i % 2), literals[i]);
        }
        CHECK.due("4: just one of both", x.table(13), (0xAA ^ 0x0F) & 0xFF);
        CHECK.due("4: one STATE", x.told(4), 1);
        CHECK.due("4: back()", x.back(), 0);
        CHECK.due("4: all three go", x.count(1), 4);
    }

    private static void mux() {
        SweptGates x = new SweptGates();
        CHECK.due("5: mux(3, 4, 7)", x.mux(3, 4, 7), 13);
        int[] literals = {3, 4, 2, 7, 9, 11};
        for (int i = 0; i < 6; i++) {
            CHECK.due("5: LITERAL " + i, x.of(4 + i / 2, i % 2), literals[i]);
        }
        CHECK.due("5: a where s is true, else b", x.table(13), (0x55 & 0xCC) | (0xAA & 0x0F));
        CHECK.due("5: one STATE", x.told(4), 1);
        CHECK.due("5: back()", x.back(), 0);
        CHECK.due("5: all three go", x.count(1), 4);
    }

    private static void out() {
        SweptGates x = new SweptGates();
        for (int i = 0; i < 6; i++) {
            CHECK.due("6: out(1, ..) " + i, x.out(1, i), i);
        }
        CHECK.due("6: SIDE 0 is apart", x.out(0, 7), 0);
        CHECK.due("6: OUTS of SIDE 0", x.count(2), 1);
        CHECK.due("6: OUTS of SIDE 1", x.count(3), 6);
        CHECK.due("6: the OUT", x.outs(0, 0), 7);
        CHECK.due("6: the last OUT", x.outs(1, 5), 5);
        CHECK.due("6: SIDE 0 still takes", x.out(0, 7), 1);
    }

    private static void pattern() {
        SweptGates x = new SweptGates();
        for (int i = 1; i <= 12; i++) {
            CHECK.due("7: the " + i + "th", x.pattern(i == 12 ? 7 : i / 4), i);
        }
        CHECK.due("7: PATTERNS told", x.count(4), 12);
        CHECK.due("7: told twice, kept twice, in their order", x.sign(1), 0b100001111000);
    }

    /** and, the same once more, and a GATE of both that is a rule's. */
    private static void settlesMerged() {
        SweptGates x = new SweptGates();
        x.gate(2, 4);
        x.gate(4, 2);
        x.gate(8, 10);
        x.gate(13, 6);
        CHECK.due("8: settles()", x.settles(), 2);
        CHECK.due("8: NODES", x.count(1), 6);
        CHECK.due("8: the last GATE's a", x.of(5, 0), 6);
        CHECK.due("8: the last GATE's b, a new number", x.of(5, 1), 9);
        CHECK.due("8: its TABLE", x.table(10), 0xF0 & ~0x88);
        CHECK.due("8: its depth", x.depth(10), 2);
        CHECK.due("8: nothing more goes", x.settles(), 0);
        CHECK.due("8: a STATE all the same", x.told(4), 6 - 1);
        CHECK.due("8: back()", x.back(), 4);
        CHECK.due("8: back() to the old circuit", x.back(), 3);
        CHECK.due("8: its NODES", x.count(1), 8);
    }

    private static void settlesOutsAndPatterns() {
        SweptGates x = new SweptGates();
        x.inputs(2);
        x.gate(2, 3);
        x.xor(2, 4);
        x.gate(2, 4);
        x.gate(3, 5);
        x.gate(15, 17);
        x.pattern(2);
        x.out(0, 6);
        x.out(0, 7);
        x.out(1, 13);
        x.out(1, 19);
        CHECK.due("8: two went", x.settles(), 2);
        CHECK.due("8: OUT of FALSE", x.outs(0, 0), 0);
        CHECK.due("8: OUT of TRUE", x.outs(0, 1), 1);
        CHECK.due("8: OUT that stays, a new number", x.outs(1, 0), 11);
        CHECK.due("8: OUT that is merged turned", x.outs(1, 1), 10);
        CHECK.due("8: PATTERNS as told", x.count(4), 1);
        CHECK.due("8: the PATTERN", x.row(0), 2);
        CHECK.due("8: n", x.count(0), 2);
    }

    private static void settlesOrdersLiterals() {
        SweptGates x = new SweptGates();
        x.gate(7, 2);
        CHECK.due("8: as told before", x.of(4, 0), 7);
        CHECK.due("8: none goes", x.settles(), 0);
        CHECK.due("8: the lesser is a", x.of(4, 0), 2);
        CHECK.due("8: the greater is b", x.of(4, 1), 7);
    }
}
