import java.util.ArrayList;
import java.util.List;
import java.util.regex.Matcher;
import java.util.regex.Pattern;

/**
 * The document once more, in its plainest words and by other means than the class under test:
 * truth by ROWS of booleans, SIGNS as texts, THE TEXT by a regular expression, STATES as copies.
 */
final class Model {
    static final int NONE = -1, BAD = -2, NO = -3, FULL = -4;
    private static final String N = "[0-9]{1,2}";
    private static final Pattern ORDERS = Pattern.compile(
        "( *(i *N|[gxo] *N +N|m *N +N +N|p *N) *; *)+".replace("N", N));

    /** What a STATE holds. */
    private static final class State {
        int n = 3;
        final List<int[]> gates = new ArrayList<>();
        final List<List<Integer>> outs = List.of(new ArrayList<>(), new ArrayList<>());
        final List<Integer> patterns = new ArrayList<>();

        State copy() {
            State c = new State();
            c.n = n;
            c.gates.addAll(gates);
            c.outs.get(0).addAll(outs.get(0));
            c.outs.get(1).addAll(outs.get(1));
            c.patterns.addAll(patterns);
            return c;
        }

        int nodes() {
            return 1 + n + gates.size();
        }

        int rows() {
            int rows = 1;
            for (int i = 0; i < n; i++) {
                rows *= 2;
            }
            return rows;
        }

        boolean[] truthsIn(int row) {
            boolean[] is = new boolean[nodes()];
            for (int g = 1; g < nodes(); g++) {
                if (g <= n) {
                    is[g] = row / (int) Math.pow(2, g - 1) % 2 == 1;
                } else {
                    int[] pair = gates.get(g - n - 1);
                    is[g] = truth(is, pair[0]) && truth(is, pair[1]);
                }
            }
            return is;
        }

        static boolean truth(boolean[] is, int literal) {
            return is[literal / 2] != (literal % 2 == 1);
        }

        boolean isTrue(int literal, int row) {
            return truth(truthsIn(row), literal);
        }
    }

    /** What THE SWEEP of a STATE gives. */
    private static final class Swept {
        final List<Integer> rows = new ArrayList<>();
        final List<Integer> forms = new ArrayList<>();
        final List<int[]> had = new ArrayList<>();
        final List<int[]> lines = new ArrayList<>();
        final int[] tally = new int[4];
        int checks = 0;
        private final List<String> tables = new ArrayList<>();

        Swept(State s) {
            rows.addAll(s.patterns);
            for (int g = 0; g < s.nodes(); g++) {
                tables.add("");
            }
            for (int r = 0; r < s.rows(); r++) {
                boolean[] is = s.truthsIn(r);
                for (int g = 0; g < s.nodes(); g++) {
                    tables.set(g, tables.get(g) + (is[g] ? "1" : "0"));
                }
            }
            for (int g = 0; g < s.nodes(); g++) {
                had.add(null);
                if (g <= s.n) {
                    forms.add(2 * g);
                } else {
                    sweep(g, s.gates.get(g - s.n - 1));
                }
            }
        }

        int formOf(int literal) {
            int form = forms.get(literal / 2);
            return literal % 2 == 0 ? form : turned(form);
        }

        private static int turned(int literal) {
            return literal % 2 == 0 ? literal + 1 : literal - 1;
        }

        private boolean kept(int g) {
            return forms.get(g) == 2 * g;
        }

        private void sweep(int g, int[] pair) {
            int x = formOf(pair[0]);
            int y = formOf(pair[1]);
            int a = x < y ? x : y;
            int b = x < y ? y : x;
            if (a == 0 || (a % 2 == 0 && b == a + 1)) {
                line(g, 0, 1);
            } else if (a == 1) {
                line(g, b, 1);
            } else if (a == b) {
                line(g, a, 1);
            } else if (!foundSame(g, a, b) && !foundByChecks(g)) {
                forms.add(2 * g);
                had.set(g, new int[] {a, b});
                tally[0]++;
            }
        }

        private void line(int g, int form, int why) {
            forms.add(form);
            lines.add(new int[] {g, form, why});
            tally[why]++;
        }

        private boolean foundSame(int g, int a, int b) {
            for (int k = 0; k < g; k++) {
                int[] pair = had.get(k);
                if (pair != null && pair[0] == a && pair[1] == b) {
                    line(g, 2 * k, 2);
                    return true;
                }
            }
            return false;
        }

        private boolean foundByChecks(int g) {
            for (int k = 0; k < g; k++) {
                if (!kept(k)) {
                    continue;
                }
                if (sign(g).equals(sign(k))) {
                    if (check(g, k, false)) {
                        return true;
                    }
                    if (!rows.isEmpty() && sign(g).equals(flip(sign(k))) && check(g, k, true)) {
                        return true;
                    }
                } else if (sign(g).equals(flip(sign(k))) && check(g, k, true)) {
                    return true;
                }
            }
            return false;
        }

        private boolean check(int g, int k, boolean turn) {
            checks++;
            String want = turn ? flip(tables.get(k)) : tables.get(k);
            for (int r = 0; r < want.length(); r++) {
                if (tables.get(g).charAt(r) != want.charAt(r)) {
                    if (rows.size() < 12) {
                        rows.add(r);
                    }
                    return false;
                }
            }
            line(g, turn ? 2 * k + 1 : 2 * k, 3);
            return true;
        }

        private String sign(int g) {
            StringBuilder t = new StringBuilder();
            for (int r : rows) {
                t.append(tables.get(g).charAt(r));
            }
            return t.toString();
        }

        private static String flip(String bits) {
            return bits.replace('0', 'x').replace('1', '0').replace('x', '1');
        }
    }

    private State now = new State();
    private Swept sweptNow = null;
    private final List<State> states = new ArrayList<>();
    private final int[] refused = new int[3];
    private String text = "";

    /** One call by its name; what the document rules as its answer. */
    long call(String name, int[] v) {
        switch (name) {
            case "inputs": case "gate": case "xor": case "mux": case "out": case "pattern":
                return counted(ordered(name, v));
            case "settles": return settles();
            case "type": return counted(type(v[0]));
            case "clear": return clear();
            case "does": return does();
            case "back": return counted(back());
            case "digest": return digest();
            default: return counted(asked(name, v));
        }
    }

    private long counted(Object answer) {
        if (answer instanceof Refusal r) {
            refused[-2 - r.why]++;
            return r.why;
        }
        return (Integer) answer;
    }

    /** So that a TABLE of -2 is no refusal. */
    private record Refusal(int why) {
    }

    private boolean literal(int l) {
        return 0 <= l && l <= 2 * now.nodes() - 1;
    }

    private Object ordered(String name, int[] v) {
        State before = now.copy();
        Object answer = changed(name, v);
        if (!(answer instanceof Refusal)) {
            leave(before);
        }
        return answer;
    }

    private void leave(State before) {
        states.add(before);
        if (states.size() > 5) {
            states.remove(0);
        }
        sweptNow = null;
    }

    private Object changed(String name, int[] v) {
        switch (name) {
            case "inputs":
                if (v[0] < 1 || v[0] > 5) {
                    return new Refusal(BAD);
                }
                int before = now.n;
                now = new State();
                now.n = v[0];
                return before;
            case "gate":
                if (!literal(v[0]) || !literal(v[1])) {
                    return new Refusal(BAD);
                }
                return now.nodes() == 48 ? new Refusal(FULL) : added(v[0], v[1]);
            case "xor":
                if (!literal(v[0]) || !literal(v[1])) {
                    return new Refusal(BAD);
                }
                return three(v[0], Swept.turned(v[1]), Swept.turned(v[0]), v[1]);
            case "mux":
                if (!literal(v[0]) || !literal(v[1]) || !literal(v[2])) {
                    return new Refusal(BAD);
                }
                return three(v[0], v[1], Swept.turned(v[0]), v[2]);
            case "out":
                if (v[0] != 0 && v[0] != 1 || !literal(v[1])) {
                    return new Refusal(BAD);
                }
                return now.outs.get(v[0]).size() == 6 ? new Refusal(FULL) : addedOut(v[0], v[1]);
            default:
                if (v[0] < 0 || v[0] >= now.rows()) {
                    return new Refusal(BAD);
                }
                if (now.patterns.size() == 12) {
                    return new Refusal(FULL);
                }
                now.patterns.add(v[0]);
                return now.patterns.size();
        }
    }

    private int addedOut(int s, int l) {
        now.outs.get(s).add(l);
        return now.outs.get(s).size() - 1;
    }

    private int added(int a, int b) {
        now.gates.add(new int[] {a, b});
        return 2 * (now.nodes() - 1);
    }

    private Object three(int a, int b, int c, int d) {
        if (now.nodes() + 3 > 48) {
            return new Refusal(FULL);
        }
        int p = added(a, b);
        int q = added(c, d);
        return added(p + 1, q + 1) + 1;
    }

    private Swept swept() {
        if (sweptNow == null) {
            sweptNow = new Swept(now);
        }
        return sweptNow;
    }

    private int settles() {
        Swept s = swept();
        State next = new State();
        next.n = now.n;
        List<Integer> keptNodes = new ArrayList<>();
        for (int g = 0; g < now.nodes(); g++) {
            if (s.kept(g)) {
                keptNodes.add(g);
            }
        }
        for (int g : keptNodes) {
            if (g > now.n) {
                int[] pair = s.had.get(g);
                next.gates.add(new int[] {anew(keptNodes, pair[0]), anew(keptNodes, pair[1])});
            }
        }
        for (int side = 0; side < 2; side++) {
            for (int l : now.outs.get(side)) {
                next.outs.get(side).add(anew(keptNodes, s.formOf(l)));
            }
        }
        next.patterns.addAll(now.patterns);
        State before = now;
        now = next;
        leave(before);
        return before.nodes() - now.nodes();
    }

    private static int anew(List<Integer> keptNodes, int literal) {
        return 2 * keptNodes.indexOf(literal / 2) + literal % 2;
    }

    private Object type(int c) {
        if (c < 0 || c > 127) {
            return new Refusal(BAD);
        }
        if (text.length() == 150) {
            return new Refusal(FULL);
        }
        text += (char) c;
        return text.length();
    }

    private int clear() {
        int had = text.length();
        text = "";
        return had;
    }

    private static int fault(String text) {
        for (int end = 1; end <= text.length(); end++) {
            Matcher m = ORDERS.matcher(text.substring(0, end));
            if (!m.matches() && !m.hitEnd()) {
                return end - 1;
            }
        }
        return ORDERS.matcher(text).matches() ? NONE : text.length();
    }

    private int does() {
        int fault = fault(text);
        if (fault != NONE) {
            return -10 - fault;
        }
        State before = now.copy();
        String[] orders = text.trim().split(";");
        for (int i = 0; i < orders.length; i++) {
            String order = orders[i].trim();
            String name = switch (order.charAt(0)) {
                case 'i' -> "inputs";
                case 'g' -> "gate";
                case 'x' -> "xor";
                case 'm' -> "mux";
                case 'o' -> "out";
                default -> "pattern";
            };
            String[] told = order.substring(1).trim().split(" +");
            int[] v = new int[told.length];
            for (int k = 0; k < v.length; k++) {
                v[k] = Integer.parseInt(told[k]);
            }
            if (changed(name, v) instanceof Refusal) {
                now = before;
                return -1000 - i;
            }
        }
        leave(before);
        return orders.length;
    }

    private Object back() {
        if (states.isEmpty()) {
            return new Refusal(NO);
        }
        now = states.remove(states.size() - 1);
        sweptNow = null;
        return states.size();
    }

    private Object asked(String name, int[] v) {
        Integer answer = switch (name) {
            case "of" -> of(v[0], v[1]);
            case "table" -> literal(v[0]) ? table(v[0]) : null;
            case "at" -> literal(v[0]) && v[1] >= 0 && v[1] < now.rows() ? (now.isTrue(v[0], v[1]) ? 1 : 0) : null;
            case "depth" -> literal(v[0]) ? depth(v[0]) : null;
            case "cone" -> literal(v[0]) ? cone(v[0]) : null;
            case "outs" -> v[0] < 0 || v[0] > 1 || v[1] < 0 ? null : orNone(now.outs.get(v[0]), v[1]);
            case "count" -> v[0] < 0 || v[0] > 4 ? null : count(v[0]);
            case "sign" -> v[0] < 0 || v[0] >= now.nodes() ? null : sign(v[0]);
            case "form" -> v[0] < 0 || v[0] >= now.nodes() ? null : swept().forms.get(v[0]);
            case "lines" -> lines(v[0], v[1]);
            case "swept" -> v[0] < 0 || v[0] > 5 ? null : tally(v[0]);
            case "row" -> v[0] < 0 ? null : orNone(swept().rows, v[0]);
            case "alike" -> pair(v[0]) ? (alike(v[0]) ? 1 : 0) : null;
            case "witness" -> pair(v[0]) ? witness(v[0]) : null;
            case "verdict" -> verdict();
            case "told" -> v[0] < 0 || v[0] > 4 ? null : told(v[0]);
            default -> throw new IllegalStateException(name);
        };
        return answer == null ? new Refusal(BAD) : answer;
    }

    private static int orNone(List<Integer> list, int i) {
        return i < list.size() ? list.get(i) : NONE;
    }

    private Integer of(int g, int what) {
        return g <= now.n || g >= now.nodes() || what < 0 || what > 1 ? null : now.gates.get(g - now.n - 1)[what];
    }

    private int table(int l) {
        int table = 0;
        for (int r = 0; r < now.rows(); r++) {
            if (now.isTrue(l, r)) {
                table |= 1 << r;
            }
        }
        return table;
    }

    private int depth(int l) {
        int[] depths = new int[now.nodes()];
        for (int g = now.n + 1; g < now.nodes(); g++) {
            int[] pair = now.gates.get(g - now.n - 1);
            depths[g] = 1 + Math.max(depths[pair[0] / 2], depths[pair[1] / 2]);
        }
        return depths[l / 2];
    }

    private int cone(int l) {
        List<Integer> met = new ArrayList<>();
        met.add(l / 2);
        int gates = 0;
        for (int i = 0; i < met.size(); i++) {
            if (met.get(i) > now.n) {
                gates++;
                for (int literal : now.gates.get(met.get(i) - now.n - 1)) {
                    if (!met.contains(literal / 2)) {
                        met.add(literal / 2);
                    }
                }
            }
        }
        return gates;
    }

    private int count(int what) {
        int[] all = {now.n, now.nodes(), now.outs.get(0).size(), now.outs.get(1).size(), now.patterns.size()};
        return all[what];
    }

    private int sign(int g) {
        int bits = 0;
        for (int i = 0; i < now.patterns.size(); i++) {
            if (now.isTrue(2 * g, now.patterns.get(i))) {
                bits += 1 << i;
            }
        }
        return bits;
    }

    private Integer lines(int i, int what) {
        if (i < -1 || what < 0 || what > 2 || i == -1 && what != 0) {
            return null;
        }
        List<int[]> lines = swept().lines;
        if (i == -1) {
            return lines.size();
        }
        return i < lines.size() ? lines.get(i)[what] : -5;
    }

    private int tally(int what) {
        return what < 4 ? swept().tally[what] : what == 4 ? swept().checks : swept().rows.size();
    }

    private boolean pair(int i) {
        return i >= 0 && i < now.outs.get(0).size() && i < now.outs.get(1).size();
    }

    private boolean alike(int i) {
        return swept().formOf(now.outs.get(0).get(i)) == swept().formOf(now.outs.get(1).get(i));
    }

    private int witness(int i) {
        for (int r = 0; r < now.rows(); r++) {
            if (now.isTrue(now.outs.get(0).get(i), r) != now.isTrue(now.outs.get(1).get(i), r)) {
                return r;
            }
        }
        return NONE;
    }

    private int verdict() {
        if (now.outs.get(0).size() != now.outs.get(1).size()) {
            return NONE;
        }
        for (int i = 0; i < now.outs.get(0).size(); i++) {
            if (!alike(i)) {
                return 0;
            }
        }
        return 1;
    }

    private int told(int what) {
        int[] all = {refused[0], refused[1], refused[2], text.length(), states.size()};
        return all[what];
    }

    private long digest() {
        List<Integer> all = new ArrayList<>();
        for (int i = 0; i < 5; i++) {
            all.add(told(i));
        }
        for (int i = 0; i < 5; i++) {
            all.add(count(i));
        }
        for (int g = 0; g < now.nodes(); g++) {
            if (g > now.n) {
                all.add(of(g, 0));
                all.add(of(g, 1));
            }
            all.add(table(2 * g));
            all.add(sign(g));
            all.add(swept().forms.get(g));
        }
        all.addAll(now.outs.get(0));
        all.addAll(now.outs.get(1));
        all.addAll(swept().rows);
        for (int i = 0; i < 6; i++) {
            all.add(tally(i));
        }
        for (int[] line : swept().lines) {
            for (int v : line) {
                all.add(v);
            }
        }
        all.add(verdict());
        long h = 1675;
        for (int v : all) {
            h = 31 * h + v;
        }
        return h;
    }
}
