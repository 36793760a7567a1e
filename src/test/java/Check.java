import java.util.ArrayList;
import java.util.List;

/** What all tests share: answers that are due, and an exit code that tells whether they came. */
final class Check {
    private int right = 0;
    private final List<String> wrong = new ArrayList<>();

    void due(String what, long got, long want) {
        holds(what + " answered " + got + ", due is " + want, got == want);
    }

    void holds(String what, boolean so) {
        if (so) {
            right++;
        } else {
            wrong.add(what);
        }
    }

    /** A refused call: its answer, how often it counts, and that all else stays as it was. */
    void refused(String what, SweptGates x, long got, int why, long[] before) {
        due(what, got, why);
        long[] after = Seen.of(x);
        int counter = why == SweptGates.BAD ? 0 : why == SweptGates.NO ? 1 : 2;
        for (int i = 0; i < 3; i++) {
            due(what + " then told(" + i + ")", after[i], before[i] + (i == counter ? 1 : 0));
        }
        holds(what + " left all else as it was", Seen.sameBehindRefusals(before, after));
    }

    /** A call by its name that must be refused as BAD. */
    void bad(SweptGates x, String name, int... v) {
        long[] seen = Seen.of(x);
        StringBuilder told = new StringBuilder(name);
        for (int i : v) {
            told.append(' ').append(i);
        }
        refused(told.toString(), x, Caller.call(x, name, v), SweptGates.BAD, seen);
    }

    boolean anyWrong() {
        return !wrong.isEmpty();
    }

    void end() {
        int shown = Math.min(wrong.size(), 40);
        for (int i = 0; i < shown; i++) {
            System.out.println(wrong.get(i));
        }
        System.out.println(right + " right, " + wrong.size() + " wrong");
        if (anyWrong()) {
            System.exit(1);
        }
    }
}
