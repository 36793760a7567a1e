import java.util.ArrayList;
import java.util.List;

/**
 * Calls on a new object. Each question is asked of an object of its own that has had these calls alone, so
 * that asking leaves no trace and no object is used for more calls than the document allows.
 */
final class Run {
    static final int MOST_CALLS = 512;
    private final List<Call> calls;

    private Run(List<Call> calls) {
        this.calls = calls;
    }

    static Run of(String... told) {
        return new Run(List.of()).then(told);
    }

    Run then(String... told) {
        List<Call> all = new ArrayList<>(calls);
        for (String call : told) {
            all.add(Call.of(call));
        }
        return new Run(all);
    }

    Run times(int many, String call) {
        List<Call> all = new ArrayList<>(calls);
        for (int i = 0; i < many; i++) {
            all.add(Call.of(call));
        }
        return new Run(all);
    }

    Run types(String text) {
        List<Call> all = new ArrayList<>(calls);
        for (int i = 0; i < text.length(); i++) {
            all.add(new Call("type", new int[] {text.charAt(i)}));
        }
        return new Run(all);
    }

    int size() {
        return calls.size();
    }

    /** What the last of some calls behind this run answers. */
    long answer(String... asked) {
        long[] all = answers(asked);
        return all[all.length - 1];
    }

    long[] answers(String... asked) {
        List<Call> all = new ArrayList<>();
        for (String call : asked) {
            all.add(Call.of(call));
        }
        return answers(all);
    }

    /** What calls, one behind the other on one object, answer. */
    long[] answers(List<Call> asked) {
        if (calls.size() + asked.size() > MOST_CALLS) {
            throw new IllegalStateException("a test makes more than " + MOST_CALLS + " calls");
        }
        SweptGates x = new SweptGates();
        for (Call call : calls) {
            call.on(x);
        }
        long[] all = new long[asked.size()];
        for (int i = 0; i < all.length; i++) {
            all[i] = asked.get(i).on(x);
        }
        return all;
    }
}
