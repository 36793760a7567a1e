/** Promises 9 to 16: what is told of NODES, LITERALS, OUTS and PATTERNS. */
public final class ToldTest {
    private static final Check CHECK = new Check();

    public static void main(String[] args) {
        of();
        table();
        tableOfThirtyTwoRows();
        at();
        depth();
        cone();
        outs();
        count();
        sign();
        CHECK.end();
    }

    /** NODES 4 to 7: and, and of it turned, one that shares both, one of TRUE. */
    private static SweptGates some() {
        SweptGates x = new SweptGates();
        x.gate(4, 2);
        x.gate(9, 6);
        x.gate(8, 10);
        x.gate(1, 13);
        return x;
    }

    private static void of() {
        SweptGates x = some();
        int[] literals = {4, 2, 9, 6, 8, 10, 1, 13};
        for (int i = 0; i < 8; i++) {
            CHECK.due("9: of(" + (4 + i / 2) + ", " + i % 2 + ")", x.of(4 + i / 2, i % 2), literals[i]);
        }
    }

    private static void table() {
        SweptGates x = some();
        int[] tables = {0, 0xFF, 0xAA, 0x55, 0xCC, 0x33, 0xF0, 0x0F, 0x88, 0x77, 0x70, 0x8F, 0, 0xFF, 0xFF, 0};
        for (int l = 0; l < 16; l++) {
            CHECK.due("10: table(" + l + ")", x.table(l), tables[l]);
        }
        int[][] byInputs = {{0b10}, {0b1010, 0b1100}, {0xAA, 0xCC, 0xF0}, {0xAAAA, 0xCCCC, 0xF0F0, 0xFF00}};
        for (int n = 1; n <= 4; n++) {
            x.inputs(n);
            for (int k = 1; k <= n; k++) {
                CHECK.due("10: INPUT " + k + " of " + n, x.table(2 * k), byInputs[n - 1][k - 1]);
                CHECK.due("10: turned", x.table(2 * k + 1), (1 << (1 << n)) - 1 - byInputs[n - 1][k - 1]);
            }
        }
    }

    private static void tableOfThirtyTwoRows() {
        SweptGates x = new SweptGates();
        x.inputs(5);
        int[] tables = {0, -1, 0xAAAAAAAA, 0x55555555, 0xCCCCCCCC, 0x33333333, 0xF0F0F0F0, 0x0F0F0F0F,
            0xFF00FF00, 0x00FF00FF, 0xFFFF0000, 0x0000FFFF};
        for (int l = 0; l < 12; l++) {
            CHECK.due("10: table(" + l + ") of 5", x.table(l), tables[l]);
        }
        x.gate(3, 5);
        x.gate(7, 9);
        x.gate(12, 14);
        x.gate(16, 11);
        CHECK.due("10: true in ROW 0 alone", x.table(18), 1);
        CHECK.due("10: a TABLE of -2 is no refusal", x.table(19), -2);
        CHECK.due("10: and counts as none", x.told(0), 0);
        CHECK.due("10: table(20)", x.table(20), SweptGates.BAD);
        CHECK.due("10: counts as BAD", x.told(0), 1);
    }

    private static void at() {
        SweptGates x = new SweptGates();
        x.inputs(5);
        x.gate(10, 2);
        int[] literals = {0, 1, 2, 5, 10, 12, 13};
        for (int l : literals) {
            for (int r = 0; r < 32; r++) {
                CHECK.due("11: at(" + l + ", " + r + ")", x.at(l, r), x.table(l) >>> r & 1);
            }
        }
        CHECK.due("11: at(12, 31)", x.at(12, 31), 1);
        CHECK.due("11: at(12, 15)", x.at(12, 15), 0);
        CHECK.due("11: at(13, 17)", x.at(13, 17), 0);
        CHECK.due("11: at(12, 32)", x.at(12, 32), SweptGates.BAD);
        x.inputs(1);
        CHECK.due("11: at(2, 1) of 1", x.at(2, 1), 1);
        CHECK.due("11: at(2, 2) of 1", x.at(2, 2), SweptGates.BAD);
    }

    private static void depth() {
        SweptGates x = some();
        int[] depths = {0, 0, 0, 0, 1, 2, 3, 4};
        for (int l = 0; l < 16; l++) {
            CHECK.due("12: depth(" + l + ")", x.depth(l), depths[l / 2]);
        }
        x.gate(0, 1);
        CHECK.due("12: of FALSE and TRUE", x.depth(16), 1);
        SweptGates chain = new SweptGates();
        for (int g = 4; g < 48; g++) {
            chain.gate(2 * g - 2, 2 * g - 1);
        }
        CHECK.due("12: the deepest", chain.depth(95), 44);
    }

    private static void cone() {
        SweptGates x = some();
        int[] cones = {0, 0, 0, 0, 1, 2, 3, 4};
        for (int l = 0; l < 16; l++) {
            CHECK.due("13: cone(" + l + ")", x.cone(l), cones[l / 2]);
        }
        x.gate(2, 6);
        x.gate(16, 9);
        CHECK.due("13: just what it hangs on", x.cone(19), 3);
        SweptGates chain = new SweptGates();
        for (int g = 4; g < 48; g++) {
            chain.gate(2 * g - 2, 2 * g - 1);
        }
        CHECK.due("13: all GATES", chain.cone(94), 44);
    }

    private static void outs() {
        SweptGates x = new SweptGates();
        x.out(0, 3);
        x.out(1, 5);
        x.out(1, 3);
        CHECK.due("14: outs(0, 0)", x.outs(0, 0), 3);
        CHECK.due("14: outs(1, 0)", x.outs(1, 0), 5);
        CHECK.due("14: outs(1, 1)", x.outs(1, 1), 3);
        CHECK.due("14: outs(0, 1)", x.outs(0, 1), SweptGates.NONE);
        CHECK.due("14: outs(1, 2)", x.outs(1, 2), SweptGates.NONE);
        CHECK.due("14: outs(1, 6)", x.outs(1, 6), SweptGates.NONE);
        CHECK.due("14: outs(0, greatest)", x.outs(0, Integer.MAX_VALUE), SweptGates.NONE);
        CHECK.due("14: none of these is refused", x.told(0), 0);
    }

    private static void count() {
        SweptGates x = new SweptGates();
        x.inputs(4);
        x.xor(2, 4);
        x.out(0, 2);
        x.out(1, 2);
        x.out(1, 3);
        for (int i = 0; i < 4; i++) {
            x.pattern(15);
        }
        int[] counts = {4, 8, 1, 2, 4};
        for (int i = 0; i < 5; i++) {
            CHECK.due("15: count(" + i + ")", x.count(i), counts[i]);
        }
    }

    private static void sign() {
        SweptGates x = some();
        CHECK.due("16: no PATTERNS", x.sign(4), 0);
        for (int r : new int[] {3, 0, 7, 7, 4}) {
            x.pattern(r);
        }
        int[] signs = {0, 0b01101, 0b01101, 0b11100, 0b01101, 0b10000, 0, 0b11111};
        for (int g = 0; g < 8; g++) {
            CHECK.due("16: sign(" + g + ")", x.sign(g), signs[g]);
        }
        CHECK.due("16: THE SWEEP has more PATTERNS", x.swept(5) > 5 ? 1 : 0, 1);
        CHECK.due("16: which do not tell here", x.sign(7), 0b11111);
    }

}
