/**
 * Two circuits of gates over the same inputs, proved alike by a sweep or told apart by a row.
 * What each call must do stands in the project's document, by the number of its promise.
 */
public final class SweptGates {
    public static final int NONE = -1, BAD = -2, NO = -3, FULL = -4;

    private static final int NO_SUCH_LINE = -5;
    private static final int FAULT_BASE = -10;
    private static final int REFUSED_ORDER_BASE = -1000;
    private static final long DIGEST_START = 1675L;

    private static final int NODE_LIMIT = 48;
    private static final int INPUT_LIMIT = 5;
    private static final int FIRST_INPUTS = 3;
    private static final int SIDES = 2;
    private static final int OUT_LIMIT = 6;
    private static final int PATTERN_LIMIT = 12;
    private static final int STATE_LIMIT = 5;
    private static final int TEXT_LIMIT = 150;
    private static final int BYTE_LIMIT = 128;

    private static final int INPUTS = 0, GATE = 1, XOR = 2, MUX = 3, OUT = 4, PATTERN = 5;
    private static final String ORDER_LETTERS = "igxmop";
    private static final int[] ORDER_NUMBERS = {1, 2, 2, 3, 2, 1};
    private static final int MOST_NUMBERS = 3;
    /** The shortest ORDER, "i1;", has three bytes. */
    private static final int ORDER_LIMIT = TEXT_LIMIT / 3;

    /** No refusal is 0, so 0 says that a call may go on. */
    private static final int FITS = 0;

    private static final int KEPT = 0, BY_RULE = 1, BY_SAME_GATE = 2, BY_CHECK = 3;

    /** The TABLES of INPUTS 1 to 5 over 32 ROWS. */
    private static final int[] INPUT_TRUTHS = {0xAAAAAAAA, 0xCCCCCCCC, 0xF0F0F0F0, 0xFF00FF00, 0xFFFF0000};

    private final Circuit circuit;
    private final Circuit spare;
    private final Sweep sweep;
    private final History history;
    private final Script script;
    private boolean sweepIsOld;
    private int badCalls;
    private int noCalls;
    private int fullCalls;

    public SweptGates() {
        circuit = new Circuit();
        spare = new Circuit();
        sweep = new Sweep();
        history = new History();
        script = new Script();
        sweepIsOld = true;
    }

    // ---- circuits

    public int inputs(int v) {
        return order(INPUTS, v, 0, 0);
    }

    public int gate(int a, int b) {
        return order(GATE, a, b, 0);
    }

    public int xor(int a, int b) {
        return order(XOR, a, b, 0);
    }

    public int mux(int s, int a, int b) {
        return order(MUX, s, a, b);
    }

    public int out(int s, int l) {
        return order(OUT, s, l, 0);
    }

    public int pattern(int r) {
        return order(PATTERN, r, 0, 0);
    }

    public int settles() {
        Sweep now = sweepNow();
        history.keep(circuit);
        sweepIsOld = true;
        return circuit.settleBy(now);
    }

    // ---- what is told

    public int of(int g, int what) {
        if (!circuit.isGate(g) || what < 0 || what > 1) {
            return refuse(BAD);
        }
        return what == 0 ? circuit.firsts[g] : circuit.seconds[g];
    }

    public int table(int l) {
        return circuit.isLiteral(l) ? circuit.truthOf(l) : refuse(BAD);
    }

    public int at(int l, int r) {
        if (!circuit.isLiteral(l) || !circuit.isRow(r)) {
            return refuse(BAD);
        }
        return (circuit.truthOf(l) >>> r) & 1;
    }

    public int depth(int l) {
        return circuit.isLiteral(l) ? circuit.levelOf(l) : refuse(BAD);
    }

    public int cone(int l) {
        return circuit.isLiteral(l) ? circuit.gatesBehind(l) : refuse(BAD);
    }

    public int outs(int s, int i) {
        if (!circuit.isSide(s) || i < 0) {
            return refuse(BAD);
        }
        return i < circuit.outCounts[s] ? circuit.outOf(s, i) : NONE;
    }

    public int count(int what) {
        return what < 0 || what > 4 ? refuse(BAD) : circuit.countOf(what);
    }

    public int sign(int g) {
        return circuit.isNode(g) ? circuit.signOf(g) : refuse(BAD);
    }

    // ---- the sweep

    public int form(int g) {
        return circuit.isNode(g) ? sweepNow().forms[g] : refuse(BAD);
    }

    public int lines(int i, int what) {
        if (i < NONE || what < 0 || what > 2 || (i == NONE && what != 0)) {
            return refuse(BAD);
        }
        Sweep now = sweepNow();
        if (i == NONE) {
            return now.lineCount;
        }
        return i < now.lineCount ? now.lineOf(i, what) : NO_SUCH_LINE;
    }

    public int swept(int what) {
        return what < 0 || what > 5 ? refuse(BAD) : sweepNow().tallyOf(what);
    }

    public int row(int i) {
        if (i < 0) {
            return refuse(BAD);
        }
        Sweep now = sweepNow();
        return i < now.rowCount ? now.rows[i] : NONE;
    }

    public int alike(int i) {
        if (!circuit.hasOutPair(i)) {
            return refuse(BAD);
        }
        return circuit.pairIsAlikeBy(sweepNow(), i) ? 1 : 0;
    }

    public int witness(int i) {
        if (!circuit.hasOutPair(i)) {
            return refuse(BAD);
        }
        return circuit.pairIsAlikeBy(sweepNow(), i) ? NONE : leastRow(circuit.pairDifference(i));
    }

    public int verdict() {
        return circuit.verdictBy(sweepNow());
    }

    // ---- texts

    public int type(int c) {
        if (c < 0 || c >= BYTE_LIMIT) {
            return refuse(BAD);
        }
        return script.length < TEXT_LIMIT ? script.append(c) : refuse(FULL);
    }

    public int clear() {
        int had = script.length;
        script.length = 0;
        return had;
    }

    public int does() {
        int fault = script.readFault();
        if (fault != NONE) {
            return FAULT_BASE - fault;
        }
        spare.copyFrom(circuit);
        for (int i = 0; i < script.orderCount; i++) {
            if (!orderIsDone(i)) {
                circuit.copyFrom(spare);
                return REFUSED_ORDER_BASE - i;
            }
        }
        history.keep(spare);
        sweepIsOld = true;
        return script.orderCount;
    }

    public int back() {
        if (history.size == 0) {
            return refuse(NO);
        }
        history.restore(circuit);
        sweepIsOld = true;
        return history.size;
    }

    public int told(int what) {
        return what < 0 || what > 4 ? refuse(BAD) : toldOf(what);
    }

    public long digest() {
        Sweep now = sweepNow();
        long h = DIGEST_START;
        for (int what = 0; what <= 4; what++) {
            h = 31 * h + toldOf(what);
        }
        h = circuit.digestCounts(h);
        for (int g = 0; g < circuit.nodeCount; g++) {
            h = 31 * circuit.digestNode(h, g) + now.forms[g];
        }
        h = circuit.digestOuts(h);
        return 31 * now.digestOn(h) + circuit.verdictBy(now);
    }

    // ---- what the calls share

    private int refuse(int why) {
        if (why == BAD) {
            badCalls++;
        } else if (why == NO) {
            noCalls++;
        } else {
            fullCalls++;
        }
        return why;
    }

    private int order(int kind, int x, int y, int z) {
        int refusal = circuit.refusalOf(kind, x, y, z);
        if (refusal != FITS) {
            return refuse(refusal);
        }
        history.keep(circuit);
        sweepIsOld = true;
        return circuit.perform(kind, x, y, z);
    }

    /** By THE TEXT neither refusals count nor does each ORDER leave a STATE, so this goes past order(). */
    private boolean orderIsDone(int i) {
        int kind = script.kinds[i];
        int x = script.numberOf(i, 0);
        int y = script.numberOf(i, 1);
        int z = script.numberOf(i, 2);
        if (circuit.refusalOf(kind, x, y, z) != FITS) {
            return false;
        }
        circuit.perform(kind, x, y, z);
        return true;
    }

    /** Swept only when asked for, as most calls come in rows that never ask. */
    private Sweep sweepNow() {
        if (sweepIsOld) {
            sweep.run(circuit);
            sweepIsOld = false;
        }
        return sweep;
    }

    private int toldOf(int what) {
        switch (what) {
            case 0: return badCalls;
            case 1: return noCalls;
            case 2: return fullCalls;
            case 3: return script.length;
            default: return history.size;
        }
    }

    private static int leastRow(int truth) {
        for (int r = 0; r < 31; r++) {
            if (((truth >>> r) & 1) == 1) {
                return r;
            }
        }
        return 31;
    }

    /** The NODES, OUTS and PATTERNS told: all that a STATE brings back. */
    private static final class Circuit {
        final int[] firsts = new int[NODE_LIMIT];
        final int[] seconds = new int[NODE_LIMIT];
        final int[] truths = new int[NODE_LIMIT];
        final int[] levels = new int[NODE_LIMIT];
        final int[] outLiterals = new int[SIDES * OUT_LIMIT];
        final int[] outCounts = new int[SIDES];
        final int[] patterns = new int[PATTERN_LIMIT];
        int inputCount;
        int nodeCount;
        int patternCount;

        Circuit() {
            restart(FIRST_INPUTS);
        }

        void restart(int n) {
            inputCount = n;
            nodeCount = n + 1;
            for (int k = 1; k <= n; k++) {
                truths[k] = INPUT_TRUTHS[k - 1] & allRows();
                levels[k] = 0;
            }
            outCounts[0] = 0;
            outCounts[1] = 0;
            patternCount = 0;
        }

        void copyFrom(Circuit other) {
            System.arraycopy(other.firsts, 0, firsts, 0, NODE_LIMIT);
            System.arraycopy(other.seconds, 0, seconds, 0, NODE_LIMIT);
            System.arraycopy(other.truths, 0, truths, 0, NODE_LIMIT);
            System.arraycopy(other.levels, 0, levels, 0, NODE_LIMIT);
            System.arraycopy(other.outLiterals, 0, outLiterals, 0, SIDES * OUT_LIMIT);
            System.arraycopy(other.outCounts, 0, outCounts, 0, SIDES);
            System.arraycopy(other.patterns, 0, patterns, 0, PATTERN_LIMIT);
            inputCount = other.inputCount;
            nodeCount = other.nodeCount;
            patternCount = other.patternCount;
        }

        boolean isNode(int g) {
            return g >= 0 && g < nodeCount;
        }

        boolean isGate(int g) {
            return g > inputCount && g < nodeCount;
        }

        boolean isLiteral(int l) {
            return l >= 0 && l < 2 * nodeCount;
        }

        boolean isSide(int s) {
            return s >= 0 && s < SIDES;
        }

        boolean isRow(int r) {
            return r >= 0 && r < 1 << inputCount;
        }

        boolean hasOutPair(int i) {
            return i >= 0 && i < outCounts[0] && i < outCounts[1];
        }

        /** A shift by 32 would shift by 0, so five INPUTS stand apart. */
        int allRows() {
            return inputCount == INPUT_LIMIT ? -1 : (1 << (1 << inputCount)) - 1;
        }

        int truthOf(int l) {
            int truth = truths[l >> 1];
            return (l & 1) == 0 ? truth : ~truth & allRows();
        }

        int levelOf(int l) {
            return levels[l >> 1];
        }

        int outOf(int s, int i) {
            return outLiterals[s * OUT_LIMIT + i];
        }

        int pairDifference(int i) {
            return truthOf(outOf(0, i)) ^ truthOf(outOf(1, i));
        }

        boolean pairIsAlikeBy(Sweep swept, int i) {
            return swept.formOf(outOf(0, i)) == swept.formOf(outOf(1, i));
        }

        int verdictBy(Sweep swept) {
            if (outCounts[0] != outCounts[1]) {
                return NONE;
            }
            for (int i = 0; i < outCounts[0]; i++) {
                if (!pairIsAlikeBy(swept, i)) {
                    return 0;
                }
            }
            return 1;
        }

        int countOf(int what) {
            switch (what) {
                case 0: return inputCount;
                case 1: return nodeCount;
                case 2: return outCounts[0];
                case 3: return outCounts[1];
                default: return patternCount;
            }
        }

        int signOf(int g) {
            int bits = 0;
            for (int i = 0; i < patternCount; i++) {
                bits |= ((truths[g] >>> patterns[i]) & 1) << i;
            }
            return bits;
        }

        /** A GATE hangs on NODES ahead of it alone, so one walk down meets each once. */
        int gatesBehind(int l) {
            long needed = 1L << (l >> 1);
            int gates = 0;
            for (int g = l >> 1; g > inputCount; g--) {
                if (((needed >>> g) & 1L) == 1L) {
                    gates++;
                    needed |= (1L << (firsts[g] >> 1)) | (1L << (seconds[g] >> 1));
                }
            }
            return gates;
        }

        /** Whether a call of this kind may be done: FITS, or the first refusal due. */
        int refusalOf(int kind, int x, int y, int z) {
            switch (kind) {
                case INPUTS:
                    return x >= 1 && x <= INPUT_LIMIT ? FITS : BAD;
                case GATE:
                    return isLiteral(x) && isLiteral(y) ? roomFor(1) : BAD;
                case XOR:
                    return isLiteral(x) && isLiteral(y) ? roomFor(3) : BAD;
                case MUX:
                    return isLiteral(x) && isLiteral(y) && isLiteral(z) ? roomFor(3) : BAD;
                case OUT:
                    if (!isSide(x) || !isLiteral(y)) {
                        return BAD;
                    }
                    return outCounts[x] < OUT_LIMIT ? FITS : FULL;
                default:
                    if (!isRow(x)) {
                        return BAD;
                    }
                    return patternCount < PATTERN_LIMIT ? FITS : FULL;
            }
        }

        int roomFor(int gates) {
            return nodeCount + gates <= NODE_LIMIT ? FITS : FULL;
        }

        /** Only behind refusalOf, which has looked at every number and limit. */
        int perform(int kind, int x, int y, int z) {
            switch (kind) {
                case INPUTS: return changeInputs(x);
                case GATE: return addGate(x, y);
                case XOR: return addEither(x, y ^ 1, x ^ 1, y);
                case MUX: return addEither(x, y, x ^ 1, z);
                case OUT: return addOut(x, y);
                default: return addPattern(x);
            }
        }

        int changeInputs(int v) {
            int before = inputCount;
            restart(v);
            return before;
        }

        int addGate(int a, int b) {
            int g = nodeCount;
            firsts[g] = a;
            seconds[g] = b;
            truths[g] = truthOf(a) & truthOf(b);
            levels[g] = 1 + Math.max(levelOf(a), levelOf(b));
            nodeCount = g + 1;
            return 2 * g;
        }

        /** True where the GATE of a, b or that of c, d is. */
        int addEither(int a, int b, int c, int d) {
            int p = addGate(a, b);
            int q = addGate(c, d);
            return addGate(p ^ 1, q ^ 1) ^ 1;
        }

        int addOut(int s, int l) {
            int i = outCounts[s];
            outLiterals[s * OUT_LIMIT + i] = l;
            outCounts[s] = i + 1;
            return i;
        }

        int addPattern(int r) {
            patterns[patternCount] = r;
            patternCount++;
            return patternCount;
        }

        /** Becomes the KEPT NODES of a sweep of this circuit; how many NODES went. */
        int settleBy(Sweep swept) {
            int before = nodeCount;
            swept.numberKept(before);
            nodeCount = inputCount + 1;
            for (int g = inputCount + 1; g < before; g++) {
                if (swept.reasons[g] == KEPT) {
                    addGate(swept.numbered(swept.lessers[g]), swept.numbered(swept.greaters[g]));
                }
            }
            for (int s = 0; s < SIDES; s++) {
                settleOuts(s, swept);
            }
            return before - nodeCount;
        }

        void settleOuts(int s, Sweep swept) {
            for (int i = 0; i < outCounts[s]; i++) {
                outLiterals[s * OUT_LIMIT + i] = swept.numbered(swept.formOf(outOf(s, i)));
            }
        }

        long digestCounts(long h) {
            for (int what = 0; what <= 4; what++) {
                h = 31 * h + countOf(what);
            }
            return h;
        }

        long digestNode(long h, int g) {
            if (isGate(g)) {
                h = 31 * h + firsts[g];
                h = 31 * h + seconds[g];
            }
            h = 31 * h + truths[g];
            return 31 * h + signOf(g);
        }

        long digestOuts(long h) {
            for (int s = 0; s < SIDES; s++) {
                for (int i = 0; i < outCounts[s]; i++) {
                    h = 31 * h + outOf(s, i);
                }
            }
            return h;
        }
    }

    /** THE SWEEP of a circuit: its FORMS, LINES and PATTERNS. */
    private static final class Sweep {
        final int[] forms = new int[NODE_LIMIT];
        final int[] reasons = new int[NODE_LIMIT];
        final int[] lessers = new int[NODE_LIMIT];
        final int[] greaters = new int[NODE_LIMIT];
        final int[] lineGates = new int[NODE_LIMIT];
        final int[] newNumbers = new int[NODE_LIMIT];
        final int[] rows = new int[PATTERN_LIMIT];
        final int[] gatesBy = new int[BY_CHECK + 1];
        int lineCount;
        int rowCount;
        int checkCount;
        /** Bit r on, if ROW r is a PATTERN: SIGNS are alike, if TABLES are in these bits. */
        int patternRows;
        int allRows;

        void run(Circuit circuit) {
            begin(circuit);
            for (int g = circuit.inputCount + 1; g < circuit.nodeCount; g++) {
                int a = formOf(circuit.firsts[g]);
                int b = formOf(circuit.seconds[g]);
                lessers[g] = Math.min(a, b);
                greaters[g] = Math.max(a, b);
                sweepGate(g, circuit);
                gatesBy[reasons[g]]++;
                if (reasons[g] != KEPT) {
                    lineGates[lineCount] = g;
                    lineCount++;
                }
            }
        }

        void begin(Circuit circuit) {
            lineCount = 0;
            checkCount = 0;
            allRows = circuit.allRows();
            for (int why = KEPT; why <= BY_CHECK; why++) {
                gatesBy[why] = 0;
            }
            for (int k = 0; k <= circuit.inputCount; k++) {
                merge(k, 2 * k, KEPT);
            }
            rowCount = 0;
            patternRows = 0;
            for (int i = 0; i < circuit.patternCount; i++) {
                addRow(circuit.patterns[i]);
            }
        }

        void merge(int g, int form, int why) {
            forms[g] = form;
            reasons[g] = why;
        }

        void addRow(int r) {
            if (rowCount < PATTERN_LIMIT) {
                rows[rowCount] = r;
                rowCount++;
                patternRows |= 1 << r;
            }
        }

        void sweepGate(int g, Circuit circuit) {
            int byRule = formByRule(lessers[g], greaters[g]);
            if (byRule != NONE) {
                merge(g, byRule, BY_RULE);
                return;
            }
            int same = sameGate(g, circuit.inputCount);
            if (same != NONE) {
                merge(g, 2 * same, BY_SAME_GATE);
                return;
            }
            int checked = formByChecks(g, circuit);
            if (checked != NONE) {
                merge(g, checked, BY_CHECK);
                return;
            }
            merge(g, 2 * g, KEPT);
        }

        int formByRule(int a, int b) {
            if (a == 0) {
                return 0;
            }
            if (a == 1) {
                return b;
            }
            if (a == b) {
                return a;
            }
            return b == (a ^ 1) ? 0 : NONE;
        }

        int sameGate(int g, int inputCount) {
            for (int k = inputCount + 1; k < g; k++) {
                if (reasons[k] == KEPT && lessers[k] == lessers[g] && greaters[k] == greaters[g]) {
                    return k;
                }
            }
            return NONE;
        }

        int formByChecks(int g, Circuit circuit) {
            for (int k = 0; k < g; k++) {
                if (reasons[k] != KEPT) {
                    continue;
                }
                int difference = circuit.truths[g] ^ circuit.truths[k];
                if ((difference & patternRows) == 0 && checkHolds(difference)) {
                    return 2 * k;
                }
                // Behind a CHECK that failed this is so only if its own ROW is the first PATTERN of all.
                if ((difference & patternRows) == patternRows && checkHolds(~difference & allRows)) {
                    return 2 * k + 1;
                }
            }
            return NONE;
        }

        /** A CHECK; against says in which ROWS it does not hold. */
        boolean checkHolds(int against) {
            checkCount++;
            if (against == 0) {
                return true;
            }
            addRow(leastRow(against));
            return false;
        }

        int formOf(int l) {
            return forms[l >> 1] ^ (l & 1);
        }

        int lineOf(int i, int what) {
            int g = lineGates[i];
            switch (what) {
                case 0: return g;
                case 1: return forms[g];
                default: return reasons[g];
            }
        }

        int tallyOf(int what) {
            switch (what) {
                case 4: return checkCount;
                case 5: return rowCount;
                default: return gatesBy[what];
            }
        }

        void numberKept(int nodeCount) {
            int next = 0;
            for (int g = 0; g < nodeCount; g++) {
                if (reasons[g] == KEPT) {
                    newNumbers[g] = next;
                    next++;
                }
            }
        }

        /** A LITERAL of a KEPT NODE, told by the NODE's new number. */
        int numbered(int form) {
            return 2 * newNumbers[form >> 1] + (form & 1);
        }

        long digestOn(long h) {
            for (int i = 0; i < rowCount; i++) {
                h = 31 * h + rows[i];
            }
            for (int what = 0; what <= 5; what++) {
                h = 31 * h + tallyOf(what);
            }
            for (int i = 0; i < lineCount; i++) {
                for (int what = 0; what <= 2; what++) {
                    h = 31 * h + lineOf(i, what);
                }
            }
            return h;
        }
    }

    /** STATES to go back to, in a ring, so that the oldest gives its place to the newest. */
    private static final class History {
        final Circuit[] states = new Circuit[STATE_LIMIT];
        int newest;
        int size;

        History() {
            for (int i = 0; i < STATE_LIMIT; i++) {
                states[i] = new Circuit();
            }
        }

        void keep(Circuit circuit) {
            newest = newest == STATE_LIMIT - 1 ? 0 : newest + 1;
            states[newest].copyFrom(circuit);
            size = Math.min(size + 1, STATE_LIMIT);
        }

        /** Only if size is not 0. */
        void restore(Circuit circuit) {
            circuit.copyFrom(states[newest]);
            newest = newest == 0 ? STATE_LIMIT - 1 : newest - 1;
            size--;
        }
    }

    /** THE TEXT, and the ORDERS that were read from it last. */
    private static final class Script {
        final int[] bytes = new int[TEXT_LIMIT];
        final int[] kinds = new int[ORDER_LIMIT];
        final int[] numbers = new int[ORDER_LIMIT * MOST_NUMBERS];
        int length;
        int orderCount;
        /** Of the ORDER being read: its kind, or NONE between two; its numbers so far; figures of the last, 0 if it ended. */
        int openKind;
        int given;
        int figures;

        /** Only if length is below TEXT_LIMIT. */
        int append(int c) {
            bytes[length] = c;
            length++;
            return length;
        }

        int numberOf(int order, int i) {
            return numbers[order * MOST_NUMBERS + i];
        }

        /** Reads all ORDERS: NONE, or the FAULT. */
        int readFault() {
            orderCount = 0;
            openKind = NONE;
            for (int i = 0; i < length; i++) {
                if (!takes(bytes[i])) {
                    return i;
                }
            }
            return openKind == NONE && orderCount > 0 ? NONE : length;
        }

        boolean takes(int c) {
            if (c == ' ') {
                figures = 0;
                return true;
            }
            if (openKind == NONE) {
                return opensOrder(c);
            }
            if (c == ';') {
                return endsOrder();
            }
            return c >= '0' && c <= '9' && takesFigure(c - '0');
        }

        boolean opensOrder(int c) {
            int kind = ORDER_LETTERS.indexOf((char) c);
            if (kind < 0 || orderCount >= ORDER_LIMIT) {
                return false;
            }
            openKind = kind;
            given = 0;
            figures = 0;
            return true;
        }

        boolean endsOrder() {
            if (given < ORDER_NUMBERS[openKind]) {
                return false;
            }
            kinds[orderCount] = openKind;
            orderCount++;
            openKind = NONE;
            return true;
        }

        boolean takesFigure(int figure) {
            int place = orderCount * MOST_NUMBERS + given;
            if (figures == 0 && given < ORDER_NUMBERS[openKind]) {
                numbers[place] = figure;
                given++;
                figures = 1;
                return true;
            }
            if (figures == 1) {
                numbers[place - 1] = 10 * numbers[place - 1] + figure;
                figures = 2;
                return true;
            }
            return false;
        }
    }
}
