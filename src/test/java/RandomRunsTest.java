import java.util.Random;

/** Long runs of calls, right and wrong ones mixed, against the model: all promises at once. */
public final class RandomRunsTest {
    private static final int RUNS = 600;
    private static final int CALLS = 512;
    private static final String[] ASKED = {
        "of", "table", "at", "depth", "cone", "outs", "count", "sign", "form", "lines", "swept", "row",
        "alike", "witness", "verdict", "told", "digest"};

    private final Check check = new Check();
    private final Random random;
    private final int run;
    /** How this run leans: some fill up, some start anew often, some tell texts most. */
    private final int lean;
    private SweptGates x = new SweptGates();
    private Model model = new Model();
    private int calls = 0;

    private RandomRunsTest(int run) {
        this.run = run;
        this.random = new Random(run);
        this.lean = run % 4;
    }

    public static void main(String[] args) {
        for (int run = 0; run < RUNS; run++) {
            RandomRunsTest test = new RandomRunsTest(run);
            test.goOn();
            if (test.check.anyWrong()) {
                test.check.end();
            }
        }
        System.out.println(RUNS + " runs of " + CALLS + " calls are as the model's");
    }

    private void goOn() {
        if (random.nextInt(3) > 0) {
            both("inputs", 1 + random.nextInt(5));
        }
        while (calls < CALLS && !check.anyWrong()) {
            step();
        }
    }

    private void step() {
        int die = random.nextInt(100);
        if (die < 45) {
            change();
        } else if (die < (lean == 2 ? 70 : 50)) {
            text();
        } else if (die < 90) {
            ask();
        } else if (die < 95) {
            both("digest");
        } else if (die < 97 && lean != 0) {
            both("back");
        } else {
            both("told", random.nextInt(7) - 1);
        }
    }

    private void change() {
        int die = random.nextInt(100);
        if (die < 40) {
            both("gate", literal(), literal());
        } else if (die < 50) {
            both("xor", literal(), literal());
        } else if (die < 60) {
            both("mux", literal(), literal(), literal());
        } else if (die < 78) {
            both("out", random.nextInt(20) == 0 ? random.nextInt(5) - 1 : random.nextInt(2), literal());
        } else if (die < 88) {
            both("pattern", row());
        } else if (die < (lean == 1 ? 94 : 89)) {
            both("inputs", random.nextInt(7));
        } else if (die < (lean == 3 ? 97 : 91)) {
            both("settles");
        }
    }

    private int nodes() {
        return (int) model.call("count", new int[] {1});
    }

    private int literal() {
        int die = random.nextInt(60);
        int most = 2 * nodes();
        if (die == 0) {
            return most + random.nextInt(2);
        }
        if (die == 1) {
            return odd();
        }
        return random.nextBoolean() ? random.nextInt(most) : Math.max(0, most - 1 - random.nextInt(12));
    }

    /** Numbers at the far ends and just outside. */
    private int odd() {
        int[] some = {-1, -2, Integer.MIN_VALUE, Integer.MAX_VALUE, 1 << 30, -1000, 96, 97, 48, 150};
        return some[random.nextInt(some.length)];
    }

    private int row() {
        return random.nextInt(12) == 0 ? odd() : random.nextInt(1 << model.call("count", new int[] {0})) + random.nextInt(8) / 7;
    }

    private int small(int most) {
        return random.nextInt(25) == 0 ? odd() : random.nextInt(most + 2) - random.nextInt(8) / 7;
    }

    private void ask() {
        String name = ASKED[random.nextInt(ASKED.length)];
        switch (name) {
            case "of": both(name, small(nodes()), small(1)); break;
            case "table": case "depth": case "cone": both(name, literal()); break;
            case "at": both(name, literal(), row()); break;
            case "outs": both(name, small(1), small(6)); break;
            case "count": both(name, small(4)); break;
            case "sign": case "form": both(name, small(nodes())); break;
            case "lines": both(name, small(30) - 1, random.nextInt(3) == 0 ? 0 : small(2)); break;
            case "swept": both(name, small(5)); break;
            case "row": both(name, small(12)); break;
            case "alike": case "witness": both(name, small(5)); break;
            case "told": both(name, small(4)); break;
            default: both(name);
        }
    }

    private void text() {
        if (random.nextInt(4) > 0) {
            both("clear");
        }
        String text = random.nextInt(40) == 0 ? " ".repeat(random.nextInt(4)) : orders();
        for (int i = 0; i < text.length(); i++) {
            both("type", text.charAt(i));
        }
        if (random.nextInt(20) == 0) {
            both("type", random.nextBoolean() ? 128 : odd());
        }
        both("does");
        both("digest");
    }

    private String orders() {
        StringBuilder t = new StringBuilder();
        int many = random.nextInt(12) == 0 ? 40 : 1 + random.nextInt(6);
        int nodes = nodes();
        for (int i = 0; i < many; i++) {
            gap(t, 0);
            char letter = "igxmop".charAt(random.nextInt(40) == 0 ? 0 : 1 + random.nextInt(5));
            t.append(letter);
            int numbers = letter == 'm' ? 3 : letter == 'i' || letter == 'p' ? 1 : 2;
            for (int k = 0; k < numbers; k++) {
                gap(t, k == 0 ? 0 : 1);
                number(t, letter, k, nodes);
            }
            gap(t, 0);
            t.append(';');
        }
        gap(t, 0);
        return random.nextInt(3) == 0 ? spoilt(t) : t.toString();
    }

    private void number(StringBuilder t, char letter, int k, int nodes) {
        int most = letter == 'i' ? 6 : letter == 'p' ? 8 : letter == 'o' && k == 0 ? 2 : 2 * nodes;
        int v = random.nextInt(50) == 0 ? random.nextInt(100) : random.nextInt(Math.max(1, most));
        if (v < 10 && random.nextInt(5) == 0) {
            t.append('0');
        }
        t.append(v);
    }

    private void gap(StringBuilder t, int least) {
        int blanks = Math.max(least, random.nextInt(5) - 3);
        t.append(" ".repeat(Math.max(0, blanks)));
    }

    private String spoilt(StringBuilder t) {
        int at = random.nextInt(t.length());
        switch (random.nextInt(4)) {
            case 0: t.deleteCharAt(at); break;
            case 1: t.insert(at, (char) random.nextInt(128)); break;
            case 2: t.insert(at, "0123456789;; igxmop".charAt(random.nextInt(19))); break;
            default: t.setLength(at);
        }
        return t.toString();
    }

    /** A text may go on behind the last call that the document allows: what is answered there is free. */
    private void both(String name, int... v) {
        if (calls >= CALLS) {
            return;
        }
        calls++;
        long want = model.call(name, v);
        long got = Caller.call(x, name, v);
        StringBuilder told = new StringBuilder("run ").append(run).append(", call ").append(calls).append(": ").append(name);
        for (int i : v) {
            told.append(' ').append(i);
        }
        check.due(told.toString(), got, want);
    }
}
