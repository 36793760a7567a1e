/** Each number of each call as small and as large as an int can be, and such as wrap around to a right one. */
public final class FarNumbersTest {
    private static final Edges EDGES = new Edges();
    private static final int MIN = Integer.MIN_VALUE, MAX = Integer.MAX_VALUE;
    private static final int[] BELOW = {MIN, MIN + 1, MIN + 2, MIN + 3, -(1 << 30), 2 - (1 << 30), 2 - 65536, 2 - 256, -254, -32};
    private static final int[] ABOVE = {MAX, MAX - 1, 1 << 30, (1 << 30) + 2, (1 << 24) + 2, 65536 + 2, 65536, 256 + 2, 256};
    /** Calls that a new object takes, so that one far number alone is why it is refused. */
    private static final String[] CALLS = {"inputs 2", "gate 2 4", "xor 2 4", "mux 2 4 6", "out 0 2", "pattern 1", "of 4 0",
        "table 2", "at 2 1", "depth 2", "cone 2", "outs 0 0", "count 1", "sign 1", "form 1", "lines 0 0", "swept 1", "row 0",
        "alike 0", "witness 0", "type 32", "told 0"};

    public static void main(String[] args) {
        Run[] runs = {Runs.fresh(), Runs.some(), Runs.full(1), Runs.full(5)};
        for (Run x : runs) {
            for (String call : CALLS) {
                eachNumber(x, Call.of(call));
            }
        }
        EDGES.end();
    }

    private static void eachNumber(Run x, Call call) {
        for (int place = 0; place < call.numbers().length; place++) {
            for (int v : BELOW) {
                EDGES.refuses("far below", x, with(call, place, v), Edges.BAD);
            }
            for (int v : ABOVE) {
                above(x, call.name(), place, with(call, place, v));
            }
        }
    }

    /** Some calls answer what is not there; each other one refuses it. */
    private static void above(Run x, String name, int place, String told) {
        if (name.equals("row") || name.equals("outs") && place == 1) {
            EDGES.asks("far behind", x, told, Edges.NONE);
        } else if (name.equals("lines") && place == 0) {
            EDGES.asks("far behind", x, told, -5);
        } else {
            EDGES.refuses("far above", x, told, Edges.BAD);
        }
    }

    private static String with(Call call, int place, int v) {
        StringBuilder told = new StringBuilder(call.name());
        for (int i = 0; i < call.numbers().length; i++) {
            told.append(' ').append(i == place ? v : call.numbers()[i]);
        }
        return told.toString();
    }
}
