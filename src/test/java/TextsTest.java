/** Promises 24 to 29: THE TEXT, STATES, how often refused, and the digest. */
public final class TextsTest {
    private static final Check CHECK = new Check();

    public static void main(String[] args) {
        type();
        clear();
        wellFormed();
        everyOrder();
        oneState();
        doesLeavesTextAndCounts();
        back();
        backOverAll();
        fiveStates();
        told();
        digestByHand();
        digestByCalls();
        CHECK.end();
    }

    private static SweptGates typed(SweptGates x, String text) {
        for (int i = 0; i < text.length(); i++) {
            x.type(text.charAt(i));
        }
        return x;
    }

    private static void type() {
        SweptGates x = new SweptGates();
        CHECK.due("24: the first byte", x.type('g'), 1);
        CHECK.due("24: the second", x.type('2'), 2);
        CHECK.due("24: bytes", x.told(3), 2);
        CHECK.due("24: no STATE", x.told(4), 0);
        CHECK.due("24: what has come", x.does(), -12);
    }

    private static void clear() {
        SweptGates x = new SweptGates();
        CHECK.due("25: of nothing", x.clear(), 0);
        typed(x, "g2 4;");
        CHECK.due("25: clear()", x.clear(), 5);
        CHECK.due("25: bytes", x.told(3), 0);
        CHECK.due("25: no STATE", x.told(4), 0);
        CHECK.due("25: the next byte is the first", x.type('i'), 1);
        CHECK.due("25: the old ones are gone", x.does(), -11);
    }

    private static void wellFormed() {
        Object[][] texts = {{"i1;", 1}, {"  i 1 ; ", 1}, {"g2 4;", 1}, {"g 2 4;", 1}, {"g2   4;", 1}, {"g02 04;", 1},
            {"p7;p00;", 2}, {"x2 4;o0 13;o1 12 ;", 3}, {"m2 4 6;o 0 13;", 2}, {"i5;p31;", 2}, {"i 05;", 1}};
        for (Object[] row : texts) {
            SweptGates x = typed(new SweptGates(), (String) row[0]);
            CHECK.due("26: does() of '" + row[0] + "'", x.does(), (Integer) row[1]);
            CHECK.due("26: one STATE", x.told(4), 1);
        }
    }

    private static void everyOrder() {
        Run x = Run.of().types("i4;g2 5;x4 7;m8 3 9;o1 15;o0 3;o1 22;p15;p8;");
        Run y = Run.of("inputs 4", "gate 2 5", "xor 4 7", "mux 8 3 9", "out 1 15", "out 0 3", "out 1 22", "pattern 15",
            "pattern 8");
        CHECK.due("26: nine ORDERS", x.answer("does"), 9);
        CHECK.holds("26: each as its call", Seen.of(x.then("does")).sameCircuit(Seen.of(y)));
        CHECK.due("26: all go back at once", x.then("does").answer("back"), 0);
        CHECK.holds("26: to the first", Seen.of(x.then("does", "back")).sameCircuit(Seen.of(Run.of())));
    }

    private static void oneState() {
        SweptGates x = new SweptGates();
        x.gate(2, 4);
        CHECK.due("17: swept before", x.swept(0), 1);
        typed(x, "g8 6;g8 10;p1;");
        CHECK.due("26: does()", x.does(), 3);
        CHECK.due("26: one STATE more", x.told(4), 2);
        CHECK.due("26: swept anew", x.swept(2) + x.swept(3), 1);
        CHECK.due("26: THE TEXT is done once more", x.does(), 3);
        CHECK.due("26: NODES", x.count(1), 9);
        CHECK.due("27: back()", x.back(), 2);
        CHECK.due("27: NODES", x.count(1), 7);
        CHECK.due("27: back()", x.back(), 1);
        CHECK.due("27: NODES", x.count(1), 5);
        CHECK.due("27: PATTERNS", x.count(4), 0);
    }

    private static void doesLeavesTextAndCounts() {
        SweptGates x = typed(new SweptGates(), "g2 4;");
        x.does();
        CHECK.due("26: THE TEXT stays", x.told(3), 5);
        typed(x, "g99 99;");
        CHECK.due("26: refused by does()", x.does(), -1001);
        for (int i = 0; i < 3; i++) {
            CHECK.due("28: does not count", x.told(i), 0);
        }
        x.type(200);
        CHECK.due("28: type() counts", x.told(0), 1);
    }

    private static void back() {
        SweptGates x = new SweptGates();
        CHECK.due("27: none", x.back(), SweptGates.NO);
        x.gate(2, 4);
        typed(x, "abc");
        x.gate(99, 99);
        CHECK.due("27: back()", x.back(), 0);
        CHECK.due("27: THE TEXT stays", x.told(3), 3);
        CHECK.due("27: how often refused stays", x.told(0), 1);
        CHECK.due("27: so does NO", x.told(1), 1);
        CHECK.due("27: the GATE is gone", x.count(1), 4);
    }

    /** Each of the calls told S, back one by one, through all that a STATE holds. */
    private static void backOverAll() {
        String[] calls = {"gate 4 2", "xor 8 6", "mux 2 15 9", "out 0 21", "out 1 8", "pattern 5", "settles", "pattern 6",
            "inputs 5", "gate 10 2"};
        Run[] behind = new Run[calls.length + 1];
        behind[0] = Run.of();
        for (int i = 0; i < calls.length; i++) {
            behind[i + 1] = behind[i].then(calls[i]);
        }
        backTo(behind, 5, 0);
        backTo(behind, 10, 5);
    }

    private static void backTo(Run[] behind, int from, int to) {
        Run x = behind[from];
        for (int k = from - 1; k >= to; k--) {
            CHECK.due("27: back() over call " + k, x.answer("back"), k - to);
            x = x.then("back");
            CHECK.holds("27: as before call " + k, Seen.of(x).sameCircuit(Seen.of(behind[k])));
        }
        CHECK.due("27: no more", x.answer("back"), SweptGates.NO);
    }

    private static void fiveStates() {
        SweptGates x = new SweptGates();
        for (int i = 1; i <= 8; i++) {
            x.gate(2, 4);
            CHECK.due("28: STATES", x.told(4), Math.min(i, 5));
        }
        for (int i = 4; i >= 3; i--) {
            CHECK.due("27: back()", x.back(), i);
        }
        CHECK.due("27: NODES", x.count(1), 10);
        x.pattern(0);
        x.pattern(1);
        x.pattern(2);
        CHECK.due("28: five again", x.told(4), 5);
        for (int i = 4; i >= 0; i--) {
            CHECK.due("27: back()", x.back(), i);
        }
        CHECK.due("27: the oldest that was left", x.count(1), 8);
        CHECK.due("27: no more", x.back(), SweptGates.NO);
    }

    private static void told() {
        SweptGates x = new SweptGates();
        for (int i = 0; i < 7; i++) {
            x.out(0, 0);
        }
        x.out(0, 0);
        x.inputs(9);
        x.sign(-1);
        x.table(77);
        typed(x, "hello");
        for (int i = 0; i < 6; i++) {
            x.back();
        }
        x.pattern(1);
        int[] due = {3, 1, 2, 5, 1};
        for (int i = 0; i < 5; i++) {
            CHECK.due("28: told(" + i + ")", x.told(i), due[i]);
        }
    }

    private static long digestOf(int... all) {
        long h = 1675;
        for (int v : all) {
            h = 31 * h + v;
        }
        return h;
    }

    private static void digestByHand() {
        CHECK.due("29: of a new object", new SweptGates().digest(), digestOf(
            0, 0, 0, 0, 0, 3, 4, 0, 0, 0,
            0, 0, 0, 0xAA, 0, 2, 0xCC, 0, 4, 0xF0, 0, 6,
            0, 0, 0, 0, 0, 0, 1));
        SweptGates x = new SweptGates();
        x.inputs(2);
        x.gate(4, 2);
        x.gate(6, 4);
        x.pattern(0);
        x.out(0, 7);
        x.out(1, 9);
        x.out(1, 3);
        x.back();
        x.inputs(0);
        typed(x, "zz");
        CHECK.due("29: of GATES, OUTS, PATTERNS, LINES", x.digest(), digestOf(
            1, 0, 0, 2, 4, 2, 5, 1, 1, 1,
            0, 0, 0, 0b1010, 0, 2, 0b1100, 0, 4,
            4, 2, 0b1000, 0, 6, 6, 4, 0b1000, 0, 6,
            7, 9, 0, 3, 1, 2,
            1, 0, 0, 1, 4, 4,
            4, 6, 3, 1));
        SweptGates z = new SweptGates();
        z.inputs(1);
        z.pattern(1);
        CHECK.due("29: of a SIGN", z.digest(), digestOf(
            0, 0, 0, 0, 2, 1, 2, 0, 0, 1, 0, 0, 0, 0b10, 1, 2, 1, 0, 0, 0, 0, 0, 1, 1));
        SweptGates y = new SweptGates();
        y.inputs(5);
        CHECK.due("29: of a TABLE below 0", y.digest(), digestOf(
            0, 0, 0, 0, 1, 5, 6, 0, 0, 0,
            0, 0, 0, 0xAAAAAAAA, 0, 2, 0xCCCCCCCC, 0, 4, 0xF0F0F0F0, 0, 6, 0xFF00FF00, 0, 8, 0xFFFF0000, 0, 10,
            0, 0, 0, 0, 0, 0, 1));
    }

    private static void digestByCalls() {
        SweptGates x = new SweptGates();
        x.xor(2, 4);
        x.gate(13, 13);
        long before = x.digest();
        CHECK.due("29: asking changes nothing", x.digest(), before);
        x.table(-1);
        CHECK.holds("29: a refusal shows", x.digest() != before);
    }
}
