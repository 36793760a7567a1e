/** What a test of an edge looks at: that a call is taken, or refused, just there, and what it leaves. */
final class Edges {
    static final int NONE = -1, BAD = -2, NO = -3, FULL = -4;
    private static final int MOST_STATES = 5;
    private final Check check = new Check();

    void due(String what, long got, long want) {
        check.due(what, got, want);
    }

    void holds(String what, boolean so) {
        check.holds(what, so);
    }

    void end() {
        check.end();
    }

    /** Refused: what it answers, what it counts, and that nothing else becomes other by it, now or later. */
    void refuses(String what, Run run, String call, int why) {
        String told = what + ": " + call;
        check.due(told, run.answer(call), why);
        long[] before = Seen.of(run).told;
        long[] after = Seen.of(run.then(call)).told;
        int counter = why == BAD ? 0 : why == NO ? 1 : 2;
        for (int i = 0; i < 3; i++) {
            check.due(told + ", then told(" + i + ")", after[i], before[i] + (i == counter ? 1 : 0));
        }
        check.holds(told + " left all else as it was", Seen.sameFuture(run, run.then(call)));
    }

    /** Taken by a call told S: what it answers, a STATE more (5 at most), nothing counted, and back by back(). */
    void takes(String what, Run run, String call, long answer) {
        String told = what + ": " + call;
        check.holds(told + " is told S", Call.of(call).leavesState());
        check.due(told, run.answer(call), answer);
        Seen before = Seen.of(run);
        Seen after = Seen.of(run.then(call));
        Seen back = Seen.of(run.then(call, "back"));
        long states = Math.min(MOST_STATES, before.told[4] + 1);
        check.due(told + ", then STATES", after.told[4], states);
        check.due(told + ", then back()", run.answer(call, "back"), states - 1);
        check.holds(told + ", then back() to what was", before.sameCircuit(back));
        for (int i = 0; i <= 3; i++) {
            check.due(told + ", then told(" + i + ")", after.told[i], before.told[i]);
        }
    }

    /** A byte comes behind THE TEXT: how many it has then, and that nothing but THE TEXT becomes other. */
    void types(String what, Run run, int c, long answer) {
        String call = "type " + c;
        check.due(what + ": " + call, run.answer(call), answer);
        check.due(what + ": " + call + ", then bytes", run.then(call).answer("told 3"), answer);
        check.due(what + ": " + call + ", then clear()", run.then(call).answer("clear"), answer);
        check.due(what + ": " + call + " changed nothing else", run.then(call, "clear").answer("digest"),
            run.then("clear").answer("digest"));
        check.holds(what + ": " + call + " left all else as it was",
            Seen.sameFuture(run.then("clear"), run.then(call, "clear")));
    }

    /** Answered, and nothing is other by it, how often refused and THE TEXT too. */
    void asks(String what, Run run, String call, long answer) {
        String told = what + ": " + call;
        check.due(told, run.answer(call), answer);
        check.due(told + " changed nothing", run.answer(call, "digest"), run.answer("digest"));
        check.holds(told + " left all as it was", Seen.sameFuture(run, run.then(call)));
    }

    /** As asks, for many answers: those of calls that differ in the last number alone, from 0 on. */
    void asksEach(String what, Run run, String call, long... answers) {
        for (int i = 0; i < answers.length; i++) {
            asks(what, run, call + " " + i, answers[i]);
        }
    }
}
