import java.util.ArrayList;
import java.util.List;

/** What all tests share: answers that are due, and an exit code that tells whether they came. */
final class Check {
    private int right = 0;
    private final List<String> wrong = new ArrayList<>();

    void due(String what, long got, long want) {
        holds(what + " answered " + got + ", due is " + want, got == want);
    }

    void holds(String what, boolean so) {
        if (so) {
            right++;
        } else {
            wrong.add(what);
        }
    }

    boolean anyWrong() {
        return !wrong.isEmpty();
    }

    void end() {
        int shown = Math.min(wrong.size(), 40);
        for (int i = 0; i < shown; i++) {
            System.out.println(wrong.get(i));
        }
        System.out.println(right + " right, " + wrong.size() + " wrong");
        if (anyWrong()) {
            System.exit(1);
        }
    }
}
