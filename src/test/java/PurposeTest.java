import java.util.ArrayList;
import java.util.List;
import java.util.Random;

/**
 * "What it is", on many circuits and by the class's own calls alone, without a model: what is told alike gives the
 * same in all ROWS, what is not is told apart by one, and the swept circuit gives what the old one gave.
 */
public final class PurposeTest {
    private static final int CIRCUITS = 400;
    private static final Check CHECK = new Check();

    private final String name;
    private final Run run;
    private final int n, nodes, pairs;
    private final long[] forms, tables;

    private PurposeTest(int number, Run run) {
        this.name = "circuit " + number + ": ";
        this.run = run;
        n = (int) run.answer("count 0");
        nodes = (int) run.answer("count 1");
        pairs = (int) Math.min(run.answer("count 2"), run.answer("count 3"));
        forms = each("form", nodes);
        tables = each("table", 2 * nodes);
    }

    public static void main(String[] args) {
        for (int number = 0; number < CIRCUITS; number++) {
            Random random = new Random(number);
            String text = circuit(random);
            PurposeTest test = new PurposeTest(number, Runs.fresh().types(text).then("does").then(more(random)));
            test.gatesAreTrueWhereBothAre();
            test.linesAreRight();
            test.nothingAlikeIsLeft();
            test.outsAreAlikeOrToldApart();
            test.patternsSplitTheKept();
            test.sweptIsTakenForTheOld();
            test.textIsTakenBack(text);
        }
        CHECK.end();
    }

    /** A text of some ORDERS, all of which can be done. */
    private static String circuit(Random random) {
        int n = 1 + random.nextInt(5);
        StringBuilder text = new StringBuilder("i").append(n).append(';');
        int nodes = n + 1;
        while (text.length() < 130 && nodes < 44) {
            int die = random.nextInt(10);
            String order = "gggggxxmmp".substring(die, die + 1);
            text.append(order);
            for (int i = 0; i < (order.equals("m") ? 3 : order.equals("p") ? 1 : 2); i++) {
                text.append(i == 0 ? "" : " ").append(random.nextInt(order.equals("p") ? 1 << n : 2 * nodes));
            }
            text.append(';');
            nodes += order.equals("p") ? 0 : order.equals("g") ? 1 : 3;
        }
        return text.toString();
    }

    /** OUTS that are often alike, as few LITERALS of the last NODES are asked for twice; GATES up to the last NODE. */
    private static String[] more(Random random) {
        List<String> calls = new ArrayList<>();
        for (int i = 0; i < 20; i++) {
            calls.add("gate " + random.nextInt(30) + " " + random.nextInt(30));
        }
        for (int i = 0; i < 6; i++) {
            calls.add("out 0 " + random.nextInt(24));
            calls.add("out 1 " + random.nextInt(24));
        }
        return calls.toArray(new String[0]);
    }

    private long[] each(String call, int many) {
        long[] all = new long[many];
        for (int i = 0; i < many; i++) {
            all[i] = run.answer(call + " " + i);
        }
        return all;
    }

    private long ask(String call) {
        return run.answer(call);
    }

    private boolean kept(int g) {
        return forms[g] == 2 * g;
    }

    private long allRows() {
        return n == 5 ? -1 : (1L << (1 << n)) - 1;
    }

    private void gatesAreTrueWhereBothAre() {
        for (int l = 0; l < 2 * nodes; l += 2) {
            CHECK.due(name + "LITERAL " + l + " turned", tables[l + 1], (int) (~tables[l] & allRows()));
        }
        for (int g = n + 1; g < nodes; g++) {
            long both = tables[(int) ask("of " + g + " 0")] & tables[(int) ask("of " + g + " 1")];
            CHECK.due(name + "GATE " + g, tables[2 * g], both);
        }
    }

    /** "each merge told as a line, checked again" */
    private void linesAreRight() {
        int lines = (int) ask("lines -1 0");
        int line = 0;
        long[] by = new long[4];
        for (int g = n + 1; g < nodes; g++) {
            if (kept(g)) {
                by[0]++;
                continue;
            }
            CHECK.due(name + "the GATE of LINE " + line, ask("lines " + line + " 0"), g);
            int form = (int) ask("lines " + line + " 1");
            CHECK.due(name + "the FORM of LINE " + line, form, forms[g]);
            CHECK.holds(name + "a FORM is of a KEPT NODE ahead", form / 2 < g && kept(form / 2));
            CHECK.due(name + "GATE " + g + " is its FORM in all ROWS", tables[2 * g], tables[form]);
            by[(int) ask("lines " + line + " 2")]++;
            line++;
        }
        CHECK.due(name + "LINES", lines, line);
        for (int why = 0; why <= 3; why++) {
            CHECK.due(name + "swept(" + why + ")", ask("swept " + why), by[why]);
        }
    }

    private void nothingAlikeIsLeft() {
        for (int g = 0; g < nodes; g++) {
            for (int k = 0; k < g && kept(g); k++) {
                CHECK.holds(name + "KEPT NODES " + k + " and " + g + " are alike",
                    !kept(k) || tables[2 * g] != tables[2 * k] && tables[2 * g] != tables[2 * k + 1]);
            }
        }
    }

    /** "Two circuits .. proved alike, or told apart by an input" */
    private void outsAreAlikeOrToldApart() {
        boolean all = true;
        for (int i = 0; i < pairs; i++) {
            int first = (int) ask("outs 0 " + i);
            int second = (int) ask("outs 1 " + i);
            int apart = (int) (tables[first] ^ tables[second]);
            all &= apart == 0;
            CHECK.due(name + "alike(" + i + ")", ask("alike " + i), apart == 0 ? 1 : 0);
            int row = (int) ask("witness " + i);
            CHECK.due(name + "witness(" + i + ")", row, apart == 0 ? -1 : Integer.numberOfTrailingZeros(apart));
            if (row >= 0) {
                CHECK.holds(name + "ROW " + row + " tells them apart", ask("at " + first + " " + row) != ask("at " + second + " " + row));
            }
        }
        CHECK.due(name + "verdict()", ask("verdict"), all ? 1 : 0);
    }

    /** "inputs that tell two apart come as patterns and split the classes" */
    private void patternsSplitTheKept() {
        int told = (int) ask("count 4");
        int rows = (int) ask("swept 5");
        int failed = (int) (ask("swept 4") - ask("swept 3"));
        CHECK.due(name + "a PATTERN by each CHECK that fails", rows, Math.min(12, told + failed));
        long split = 0;
        for (int i = 0; i < rows; i++) {
            long r = ask("row " + i);
            CHECK.holds(name + "PATTERN " + i + " is a ROW", r >= 0 && r < 1 << n);
            split |= 1L << r;
        }
        CHECK.due(name + "no PATTERN more", ask("row " + rows), -1);
        for (int g = n + 1; g < nodes && rows < 12; g++) {
            for (int k = 0; k < g && kept(g); k++) {
                CHECK.holds(name + "KEPT NODES " + k + " and " + g + " are split", !kept(k)
                    || ((tables[2 * g] ^ tables[2 * k]) & split) != 0 && ((tables[2 * g] ^ tables[2 * k + 1]) & split) != 0);
            }
        }
    }

    /** "the swept circuit taken for the old one" */
    private void sweptIsTakenForTheOld() {
        Run settled = run.then("settles");
        long keptGates = ask("swept 0");
        CHECK.due(name + "NODES that went", ask("settles"), nodes - n - 1 - keptGates);
        CHECK.due(name + "NODES that stay", settled.answer("count 1"), n + 1 + keptGates);
        CHECK.due(name + "none goes behind it", settled.answer("settles"), 0);
        CHECK.due(name + "no LINES behind it", settled.answer("lines -1 0"), 0);
        CHECK.due(name + "the verdict behind it", settled.answer("verdict"), ask("verdict"));
        CHECK.due(name + "PATTERNS behind it", settled.answer("count 4"), ask("count 4"));
        for (int s = 0; s <= 1; s++) {
            for (int i = 0; i < pairs; i++) {
                long old = ask("outs " + s + " " + i);
                long now = settled.answer("outs " + s + " " + i);
                CHECK.due(name + "OUT " + i + " of SIDE " + s, settled.answer("table " + now), tables[(int) old]);
            }
        }
    }

    /** "told in a text, taken back" */
    private void textIsTakenBack(String text) {
        Run typed = Runs.fresh().types(text);
        CHECK.due(name + "ORDERS", typed.answer("does"), text.chars().filter(c -> c == ';').count());
        CHECK.due(name + "taken back", typed.answer("does", "back", "digest"), typed.answer("digest"));
    }
}
