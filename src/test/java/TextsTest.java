/** Promises 24 to 29: THE TEXT, STATES, how often refused, and the digest. */
public final class TextsTest {
    private static final Check CHECK = new Check();

    public static void main(String[] args) {
        type();
        clear();
        faults();
        wellFormed();
        everyOrder();
        ordersRefused();
        mostOrders();
        oneState();
        doesLeavesTextAndCounts();
        back();
        backOverAll();
        fiveStates();
        told();
        digestByHand();
        digestByCalls();
        CHECK.end();
    }

    private static SweptGates typed(SweptGates x, String text) {
        for (int i = 0; i < text.length(); i++) {
            x.type(text.charAt(i));
        }
        return x;
    }

    private static void type() {
        SweptGates x = new SweptGates();
        CHECK.due("24: the least byte", x.type(0), 1);
        CHECK.due("24: the greatest", x.type(127), 2);
        for (int c : new int[] {-1, 128, Integer.MIN_VALUE, Integer.MAX_VALUE, 32 + 256}) {
            long[] seen = Seen.of(x);
            CHECK.refused("24: type(" + c + ")", x, x.type(c), SweptGates.BAD, seen);
        }
        for (int i = 3; i <= 150; i++) {
            CHECK.due("24: type(32)", x.type(32), i);
        }
        long[] seen = Seen.of(x);
        CHECK.refused("24: the 151st", x, x.type(32), SweptGates.FULL, seen);
        seen = Seen.of(x);
        CHECK.refused("24: BAD goes first", x, x.type(128), SweptGates.BAD, seen);
        CHECK.due("24: no STATE", x.told(4), 0);
    }

    private static void clear() {
        SweptGates x = new SweptGates();
        CHECK.due("25: of nothing", x.clear(), 0);
        typed(x, "g2 4;");
        CHECK.due("25: clear()", x.clear(), 5);
        CHECK.due("25: bytes", x.told(3), 0);
        CHECK.due("25: no STATE", x.told(4), 0);
        CHECK.due("25: the next byte is the first", x.type('i'), 1);
        CHECK.due("25: the old ones are gone", x.does(), -11);
    }

    /** A does() that does nothing: its answer, and that all stays as it was, how often refused too. */
    private static void nothingDone(String text, int answer) {
        SweptGates x = new SweptGates();
        x.gate(2, 4);
        x.out(1, 8);
        x.pattern(3);
        typed(x, text);
        long[] seen = Seen.of(x);
        CHECK.due("26: does() of '" + text + "'", x.does(), answer);
        long[] after = Seen.of(x);
        for (int i = 0; i < 5; i++) {
            CHECK.due("26: then told(" + i + ")", after[i], seen[i]);
        }
        CHECK.holds("26: '" + text + "' changes nothing", Seen.sameCircuit(seen, after));
    }

    private static void fault(String text, int place) {
        nothingDone(text, -10 - place);
    }

    private static void orderRefused(String text, int order) {
        nothingDone(text, -1000 - order);
    }

    private static void faults() {
        String[] early = {"", " ", "    ", "i", "i ", "i1", "i 12 ", "g2", "g2 ", "g2 4", "g 2 4 ", "m1 2 3", "m1 2",
            "g2 4;x", "g2 4; o", "p1;p1"};
        for (String text : early) {
            fault(text, text.length());
        }
        Object[][] wrong = {{";", 0}, {"1", 0}, {"z", 0}, {" z", 1}, {"I1;", 0}, {"\ti1;", 0}, {"i\t1;", 1},
            {"i;", 1}, {"i ;", 2}, {"i123;", 3}, {"i1 2;", 3}, {"i 12 3;", 5}, {"i-1;", 1}, {"i1,", 2}, {"ii1;", 1},
            {"g2;", 2}, {"g2 ;", 3}, {"g24;", 3}, {"g245;", 3}, {"g2 456;", 5}, {"g2 4 5;", 5}, {"g2 45 6;", 6},
            {"m2 4;", 4}, {"m2 4 6 8;", 7}, {"m111 2 3;", 3}, {"m1 222 3;", 5}, {"m1 2 333;", 7}, {"x2 4x2 4;", 4},
            {"o0;", 2}, {"o0 1 2;", 5}, {"p;", 1}, {"p1 1;", 3}, {"p1;;", 3}, {"p1; ;", 4}, {"p1;1", 3},
            {"g2 4;g2 4;q", 10}, {"g2 99;g", 7}, {"g2 99;g;", 7}, {"p1;\0", 3}, {"p1" + (char) 127, 2},
            {"p1" + (char) ('0' - 1), 2}, {"p1" + (char) ('9' + 1), 2}};
        for (Object[] row : wrong) {
            fault((String) row[0], (Integer) row[1]);
        }
        fault(" ".repeat(150), 150);
        fault("p1;".repeat(49) + "p1 ", 150);
    }

    private static void wellFormed() {
        Object[][] texts = {{"i1;", 1}, {"  i 1 ; ", 1}, {"g2 4;", 1}, {"g 2 4;", 1}, {"g2   4;", 1}, {"g02 04;", 1},
            {"p7;p00;", 2}, {"x2 4;o0 13;o1 12 ;", 3}, {"m2 4 6;o 0 13;", 2}, {"i5;p31;", 2}, {"i 05;", 1}};
        for (Object[] row : texts) {
            SweptGates x = typed(new SweptGates(), (String) row[0]);
            CHECK.due("26: does() of '" + row[0] + "'", x.does(), (Integer) row[1]);
            CHECK.due("26: one STATE", x.told(4), 1);
        }
    }

    private static void everyOrder() {
        SweptGates x = typed(new SweptGates(), "i4;g2 5;x4 7;m8 3 9;o1 15;o0 3;o1 22;p15;p8;");
        SweptGates y = new SweptGates();
        y.inputs(4);
        y.gate(2, 5);
        y.xor(4, 7);
        y.mux(8, 3, 9);
        y.out(1, 15);
        y.out(0, 3);
        y.out(1, 22);
        y.pattern(15);
        y.pattern(8);
        CHECK.due("26: nine ORDERS", x.does(), 9);
        CHECK.holds("26: each as its call", Seen.sameCircuit(Seen.of(x), Seen.of(y)));
        CHECK.due("26: all go back at once", x.back(), 0);
        CHECK.holds("26: to the first", Seen.sameCircuit(Seen.of(x), Seen.of(new SweptGates())));
    }

    private static void ordersRefused() {
        orderRefused("i0;", 0);
        orderRefused("i6;", 0);
        orderRefused("i2;p4;", 1);
        orderRefused("g2 10;", 0);
        orderRefused("g2 4;g2 10;g2 14;", 2);
        orderRefused("x99 0;", 0);
        orderRefused("m2 4 6;m2 4 16;", 1);
        orderRefused("o2 0;", 0);
        orderRefused("o0 2;o0 10;", 1);
        orderRefused("p8;", 0);
        orderRefused("o0 2;o0 2;o0 2;o0 2;o0 2;o0 2;o0 2;", 6);
        orderRefused("i5;" + "p1;".repeat(13), 13);
        orderRefused("i5;" + "x2 4;".repeat(14) + "g2 4;", 15);
        orderRefused("i5;" + "m0 0 0;".repeat(15), 15);
        fault("g2 10;g", 7);
    }

    private static void mostOrders() {
        SweptGates x = typed(new SweptGates(), "i1;".repeat(50));
        CHECK.due("26: 50 ORDERS in 150 bytes", x.does(), 50);
        CHECK.due("26: n", x.count(0), 1);
    }

    private static void oneState() {
        SweptGates x = new SweptGates();
        x.gate(2, 4);
        CHECK.due("17: swept before", x.swept(0), 1);
        typed(x, "g8 6;g8 10;p1;");
        CHECK.due("26: does()", x.does(), 3);
        CHECK.due("26: one STATE more", x.told(4), 2);
        CHECK.due("26: swept anew", x.swept(2) + x.swept(3), 1);
        CHECK.due("26: THE TEXT is done once more", x.does(), 3);
        CHECK.due("26: NODES", x.count(1), 9);
        CHECK.due("27: back()", x.back(), 2);
        CHECK.due("27: NODES", x.count(1), 7);
        CHECK.due("27: back()", x.back(), 1);
        CHECK.due("27: NODES", x.count(1), 5);
        CHECK.due("27: PATTERNS", x.count(4), 0);
    }

    private static void doesLeavesTextAndCounts() {
        SweptGates x = typed(new SweptGates(), "g2 4;");
        x.does();
        CHECK.due("26: THE TEXT stays", x.told(3), 5);
        typed(x, "g99 99;");
        CHECK.due("26: refused by does()", x.does(), -1001);
        for (int i = 0; i < 3; i++) {
            CHECK.due("28: does not count", x.told(i), 0);
        }
        x.type(200);
        CHECK.due("28: type() counts", x.told(0), 1);
    }

    private static void back() {
        SweptGates x = new SweptGates();
        long[] seen = Seen.of(x);
        CHECK.refused("27: none", x, x.back(), SweptGates.NO, seen);
        x.gate(2, 4);
        typed(x, "abc");
        x.gate(99, 99);
        CHECK.due("27: back()", x.back(), 0);
        CHECK.due("27: THE TEXT stays", x.told(3), 3);
        CHECK.due("27: how often refused stays", x.told(0), 1);
        CHECK.due("27: so does NO", x.told(1), 1);
        CHECK.due("27: the GATE is gone", x.count(1), 4);
    }

    /** Each of the calls told S, back one by one, through all that a STATE holds. */
    private static void backOverAll() {
        SweptGates x = new SweptGates();
        String[] names = {"gate", "xor", "mux", "out", "out", "pattern", "settles", "pattern", "inputs", "gate"};
        int[][] numbers = {{4, 2}, {8, 6}, {2, 15, 9}, {0, 21}, {1, 8}, {5}, {}, {6}, {5}, {10, 2}};
        long[][] seen = new long[names.length][];
        for (int i = 0; i < names.length; i++) {
            seen[i] = Seen.of(x);
            Caller.call(x, names[i], numbers[i]);
            if (i == 4) {
                for (int k = 4; k >= 0; k--) {
                    CHECK.due("27: back() over " + names[k], x.back(), k);
                    CHECK.holds("27: as before " + names[k], Seen.sameCircuit(seen[k], Seen.of(x)));
                }
                for (int k = 0; k <= 4; k++) {
                    Caller.call(x, names[k], numbers[k]);
                }
            }
        }
        for (int k = 9; k >= 5; k--) {
            CHECK.due("27: back() over " + names[k], x.back(), k - 5);
            CHECK.holds("27: as before " + names[k], Seen.sameCircuit(seen[k], Seen.of(x)));
        }
        CHECK.due("27: older ones are lost", x.back(), SweptGates.NO);
    }

    private static void fiveStates() {
        SweptGates x = new SweptGates();
        for (int i = 1; i <= 8; i++) {
            x.gate(2, 4);
            CHECK.due("28: STATES", x.told(4), Math.min(i, 5));
        }
        for (int i = 4; i >= 3; i--) {
            CHECK.due("27: back()", x.back(), i);
        }
        CHECK.due("27: NODES", x.count(1), 10);
        x.pattern(0);
        x.pattern(1);
        x.pattern(2);
        CHECK.due("28: five again", x.told(4), 5);
        for (int i = 4; i >= 0; i--) {
            CHECK.due("27: back()", x.back(), i);
        }
        CHECK.due("27: the oldest that was left", x.count(1), 8);
        CHECK.due("27: no more", x.back(), SweptGates.NO);
    }

    private static void told() {
        SweptGates x = new SweptGates();
        for (int i = 0; i < 7; i++) {
            x.out(0, 0);
        }
        x.out(0, 0);
        x.inputs(9);
        x.sign(-1);
        x.table(77);
        typed(x, "hello");
        for (int i = 0; i < 6; i++) {
            x.back();
        }
        x.pattern(1);
        int[] due = {3, 1, 2, 5, 1};
        for (int i = 0; i < 5; i++) {
            CHECK.due("28: told(" + i + ")", x.told(i), due[i]);
        }
        for (int what : new int[] {-1, 5, Integer.MIN_VALUE, Integer.MAX_VALUE}) {
            long[] seen = Seen.of(x);
            CHECK.refused("28: told(" + what + ")", x, x.told(what), SweptGates.BAD, seen);
        }
    }

    private static long digestOf(int... all) {
        long h = 1675;
        for (int v : all) {
            h = 31 * h + v;
        }
        return h;
    }

    private static void digestByHand() {
        CHECK.due("29: of a new object", new SweptGates().digest(), digestOf(
            0, 0, 0, 0, 0, 3, 4, 0, 0, 0,
            0, 0, 0, 0xAA, 0, 2, 0xCC, 0, 4, 0xF0, 0, 6,
            0, 0, 0, 0, 0, 0, 1));
        SweptGates x = new SweptGates();
        x.inputs(2);
        x.gate(4, 2);
        x.gate(6, 4);
        x.pattern(0);
        x.out(0, 7);
        x.out(1, 9);
        x.out(1, 3);
        x.back();
        x.inputs(0);
        typed(x, "zz");
        CHECK.due("29: of GATES, OUTS, PATTERNS, LINES", x.digest(), digestOf(
            1, 0, 0, 2, 4, 2, 5, 1, 1, 1,
            0, 0, 0, 0b1010, 0, 2, 0b1100, 0, 4,
            4, 2, 0b1000, 0, 6, 6, 4, 0b1000, 0, 6,
            7, 9, 0, 3, 1, 2,
            1, 0, 0, 1, 4, 4,
            4, 6, 3, 1));
        SweptGates z = new SweptGates();
        z.inputs(1);
        z.pattern(1);
        CHECK.due("29: of a SIGN", z.digest(), digestOf(
            0, 0, 0, 0, 2, 1, 2, 0, 0, 1, 0, 0, 0, 0b10, 1, 2, 1, 0, 0, 0, 0, 0, 1, 1));
        SweptGates y = new SweptGates();
        y.inputs(5);
        CHECK.due("29: of a TABLE below 0", y.digest(), digestOf(
            0, 0, 0, 0, 1, 5, 6, 0, 0, 0,
            0, 0, 0, 0xAAAAAAAA, 0, 2, 0xCCCCCCCC, 0, 4, 0xF0F0F0F0, 0, 6, 0xFF00FF00, 0, 8, 0xFFFF0000, 0, 10,
            0, 0, 0, 0, 0, 0, 1));
    }

    private static void digestByCalls() {
        SweptGates x = new SweptGates();
        x.xor(2, 4);
        x.gate(13, 13);
        long before = x.digest();
        CHECK.due("29: asking changes nothing", x.digest(), before);
        x.table(-1);
        CHECK.holds("29: a refusal shows", x.digest() != before);
    }
}
