/** The edges of THE TEXT and of promises 24 to 26, each by the sentence that names it. */
public final class TextsEdgesTest {
    private static final int BAD = Edges.BAD, FULL = Edges.FULL;
    private static final Edges EDGES = new Edges();
    private static final String LETTERS = "igxmop";
    private static final String RIGHT = "i2;g2 5;x3 4;m2 4 12;o1 13;p3;";
    /** Numbers that each ORDER's call takes of a new object, one figure each. */
    private static final String[][] NUMBERS = {{"2"}, {"2", "4"}, {"2", "4"}, {"2", "4", "6"}, {"0", "2"}, {"3"}};

    public static void main(String[] args) {
        typeEachByte();
        typeNoByte();
        typeAHundredAndFifty();
        typeBadBeforeFull();
        clearOfAnyLength();
        faultWhereNoOrderIsOpen();
        faultBehindALetter();
        faultBehindNumbers();
        faultTheFirstOfSome();
        faultOfTheThirdFigure();
        faultTooEarly();
        faultOfNothingAndBlanks();
        faultBeforeAnyOrderIsDone();
        faultAtTheLastByte();
        blanksAnywhere();
        blanksNeeded();
        numbersOfTwoFigures();
        mostOrdersOfAll();
        orderRefusedEndsAll();
        ordersSeeThoseAhead();
        inputsInText();
        gatesInText();
        threeGatesInText();
        outsInText();
        patternsInText();
        textStays();
        oneStateForAll();
        EDGES.end();
    }

    /** does() does all: how many, one STATE, nothing counted, and all back by one back(). */
    private static void done(String what, Run run, String text, int orders) {
        EDGES.takes(what + " '" + text + "'", run.types(text), "does", orders);
    }

    /** does() does nothing: no STATE, nothing counted, nothing other. */
    private static void ends(String what, Run run, String text, int answer) {
        EDGES.asks(what + " '" + text + "'", run.types(text), "does", answer);
    }

    private static void fault(String what, String text, int place) {
        ends(what, Runs.fresh(), text, -10 - place);
    }

    // ---- 24: "A byte (0 .. 127) comes behind THE TEXT: how many it has. BAD; FULL: 150."

    private static void typeEachByte() {
        for (int c : new int[] {0, 1, 31, 32, 48, 57, 59, 105, 126, 127}) {
            EDGES.types("24: a byte", Runs.fresh(), c, 1);
            EDGES.types("24: a byte", Runs.some(), c, 10);
            EDGES.types("24: a byte", Run.of("gate 2 4").times(149, "type 127"), c, 150);
        }
        for (int c = 0; c <= 127; c++) {
            EDGES.due("24: bytes 0 .. 127", Runs.fresh().answer("type " + c), 1);
        }
    }

    private static void typeNoByte() {
        Run[] runs = {Runs.fresh(), Runs.some(), Runs.fresh().times(149, "type 32")};
        for (Run x : runs) {
            for (int c : new int[] {-1, -2, -127, -128, 128, 129, 255, 256, 288}) {
                EDGES.refuses("24: no byte", x, "type " + c, BAD);
            }
        }
    }

    private static void typeAHundredAndFifty() {
        Run x = Run.of("gate 2 4").times(148, "type 32");
        EDGES.types("24: the 149th", x, 32, 149);
        EDGES.types("24: the 150th", x.then("type 32"), 32, 150);
        for (int c : new int[] {0, 32, 59, 127}) {
            EDGES.refuses("24: FULL: 150", x.types("  "), "type " + c, FULL);
        }
        EDGES.due("24: still 150", x.types("    ").answer("told 3"), 150);
        EDGES.types("24: room again behind clear()", x.types("   ").then("clear"), 59, 1);
        EDGES.refuses("24: no room by does()", Runs.full(3).then("does"), "type 32", FULL);
        EDGES.refuses("24: no room by back()", Runs.full(3).then("back"), "type 32", FULL);
    }

    private static void typeBadBeforeFull() {
        Run x = Runs.full(2);
        EDGES.refuses("24: BAD before FULL", x, "type -1", BAD);
        EDGES.refuses("24: BAD before FULL", x, "type 128", BAD);
        EDGES.refuses("24: FULL", x, "type 127", FULL);
        EDGES.refuses("24: FULL", x, "type 0", FULL);
    }

    // ---- 25: "THE TEXT is empty: how many it had."

    private static void clearOfAnyLength() {
        EDGES.asks("25: of none", Run.of("gate 2 4"), "clear", 0);
        for (int many : new int[] {1, 2, 149, 150}) {
            Run x = Run.of("gate 2 4").times(many, "type 59");
            EDGES.due("25: how many it had", x.answer("clear"), many);
            Run y = x.then("clear");
            EDGES.due("25: THE TEXT is empty", y.answer("told 3"), 0);
            EDGES.asks("25: none more", y, "clear", 0);
            EDGES.asks("25: nothing is told", y, "does", -10);
            EDGES.types("25: the next byte is the first", y, 'i', 1);
            EDGES.asks("25: the old ones are gone", y.types("i2"), "does", -12);
            EDGES.holds("25: nothing else becomes other", Seen.sameFuture(Run.of("gate 2 4"), y));
            EDGES.due("25: no STATE", y.answer("told 4"), 1);
        }
    }

    // ---- "FAULT: the place of the first byte that can not stand there"

    /** Each byte behind a text that is right so far; what may stand there is told. */
    private static void eachByte(String text, String mayStand, int ordersByNow) {
        for (int c = 0; c <= 127; c++) {
            String whole = text + (char) c;
            boolean may = mayStand.indexOf(c) >= 0;
            boolean between = text.isEmpty() || text.trim().endsWith(";") || text.isBlank();
            int orders = ordersByNow + (c == ';' ? 1 : 0);
            boolean ended = may && (c == ';' || between && c == ' ' && orders > 0);
            long due = ended ? orders : -10 - (may ? whole.length() : text.length());
            EDGES.due("26: '" + text + "' and byte " + c, Runs.fresh().types(whole).answer("does"), due);
            if (!may) {
                EDGES.due("26: '" + text + "', byte " + c + " and more",
                    Runs.fresh().types(whole + ";i1;").answer("does"), due);
            }
        }
    }

    private static void faultWhereNoOrderIsOpen() {
        eachByte("", " " + LETTERS, 0);
        eachByte(" ", " " + LETTERS, 0);
        eachByte("   ", " " + LETTERS, 0);
        eachByte("p1;", " " + LETTERS, 1);
        eachByte("p1; ", " " + LETTERS, 1);
        eachByte(" p1 ;p7;  ", " " + LETTERS, 2);
    }

    private static void faultBehindALetter() {
        for (int kind = 0; kind < 6; kind++) {
            char letter = LETTERS.charAt(kind);
            eachByte("" + letter, " 0123456789", 0);
            eachByte(letter + " ", " 0123456789", 0);
            eachByte(" p1;" + letter, " 0123456789", 1);
        }
    }

    private static void faultBehindNumbers() {
        for (int kind = 0; kind < 6; kind++) {
            String text = "" + LETTERS.charAt(kind);
            for (int i = 0; i < NUMBERS[kind].length; i++) {
                boolean last = i == NUMBERS[kind].length - 1;
                String end = last ? ";" : "";
                eachByte(text + NUMBERS[kind][i], " 0123456789" + end, 0);
                eachByte(text + "0" + NUMBERS[kind][i], " " + end, 0);
                eachByte(text + NUMBERS[kind][i] + " ", last ? " ;" : " 0123456789", 0);
                eachByte(text + "0" + NUMBERS[kind][i] + "  ", last ? " ;" : " 0123456789", 0);
                text += NUMBERS[kind][i] + " ";
            }
        }
    }

    private static void faultTheFirstOfSome() {
        fault("26: the first of two", "zz", 0);
        fault("26: the first of two", "i1;z;z", 3);
        fault("26: not the ORDER that it spoils", "i1;g2;z", 5);
        fault("26: a letter too great", "I1;", 0);
        fault("26: a byte beside the blank", "i\t1;", 1);
        fault("26: no number below 0", "i-1;", 1);
        fault("26: an ORDER that is not ended", "i1p1;", 2);
    }

    /** "Numbers have 1 or 2 figures"; "(a third figure)" */
    private static void faultOfTheThirdFigure() {
        for (int kind = 0; kind < 6; kind++) {
            String text = "" + LETTERS.charAt(kind);
            for (String number : NUMBERS[kind]) {
                fault("26: a third figure", text + "00" + number + ";", text.length() + 2);
                fault("26: a third figure", text + "999", text.length() + 2);
                fault("26: a fourth figure too", text + "1234;", text.length() + 2);
                text += number + " ";
            }
        }
    }

    /** "the TEXT's length, if it ends too early" */
    private static void faultTooEarly() {
        String[] orders = {"i2;", "g2 14;", "x12 4;", "m2 4 16;", "o0 12;", "p3;"};
        for (String order : orders) {
            for (int length = 1; length < order.length(); length++) {
                String text = order.substring(0, length);
                fault("26: ends too early", text, length);
                fault("26: ends too early by a blank", text + " ", length + 1);
                fault("26: ends too early behind an ORDER", "i1; " + text, 4 + length);
            }
        }
    }

    /** "(one that is empty or has blanks alone, too)" */
    private static void faultOfNothingAndBlanks() {
        fault("26: empty", "", 0);
        for (int blanks : new int[] {1, 2, 149, 150}) {
            fault("26: blanks alone", " ".repeat(blanks), blanks);
        }
        ends("26: empty, in any state", Runs.full(2).then("clear"), "", -10);
        ends("26: empty, in any state", Runs.some().then("clear"), "", -10);
    }

    /** "THE TEXT is read whole first"; "If there is one, nothing is done." */
    private static void faultBeforeAnyOrderIsDone() {
        fault("26: behind right ORDERS", "i2;g2 4;o0 6;p3;z", 16);
        fault("26: behind right ORDERS, too early", "i2;g2 4;o0 6;p3", 15);
        fault("26: ahead of an ORDER that is refused", "i6;z", 3);
        fault("26: ahead of an ORDER that is refused, too early", "i6;g", 4);
        ends("26: nothing is done", Runs.some().then("clear"), "i2;g2 4;o0 6;p3;;", -26);
        ends("26: nothing is done", Runs.full(5).then("clear"), "i2;g2 4;x2 4", -22);
        ends("26: nothing is done", Runs.full(5).then("clear"), "g2 4;", -1000);
    }

    private static void faultAtTheLastByte() {
        String most = "i1;".repeat(49);
        fault("26: the 150th byte", most + "i1z", 149);
        fault("26: the 150th byte", most + "  ;", 149);
        fault("26: the 149th byte", most + "i;;", 148);
        fault("26: 150 bytes, too early", most + "i1 ", 150);
        fault("26: 150 bytes, too early", most + "  i", 150);
        fault("26: 149 bytes, too early", most + "i1", 149);
        fault("26: the first of 150", "z" + " ".repeat(149), 0);
        fault("26: the last of 150", " ".repeat(149) + ";", 149);
        fault("26: a letter alone at the end of 150", " ".repeat(149) + "p", 150);
        ends("26: the 151st did not come", Runs.fresh().types(most + "i1 ;"), "", -160);
    }

    // ---- "blanks (32) may stand anywhere but within a number, needed only where figures .. side by side"

    private static void blanksAnywhere() {
        Seen due = Seen.of(Run.of("inputs 2", "gate 2 5", "xor 3 4", "mux 2 4 12", "out 1 13", "pattern 3"));
        done("26: no blank but those needed", Runs.fresh(), RIGHT, 6);
        for (int place = 0; place <= RIGHT.length(); place++) {
            for (String blanks : new String[] {" ", "   "}) {
                String text = RIGHT.substring(0, place) + blanks + RIGHT.substring(place);
                if (text.contains("12") && text.contains("13")) {
                    done("26: a blank at " + place, Runs.fresh(), text, 6);
                    EDGES.holds("26: the same by '" + text + "'", due.sameCircuit(Seen.of(Runs.fresh().types(text).then("does"))));
                } else {
                    fault("26: a blank within a number makes two", text, place + blanks.length());
                }
            }
        }
        done("26: blanks at all places", Runs.fresh(), "  i  2  ;  g  2  5  ;  ", 2);
    }

    private static void blanksNeeded() {
        fault("26: two numbers side by side are one", "g25;", 3);
        fault("26: two numbers side by side are one", "x34;", 3);
        fault("26: three numbers", "m2412;", 3);
        fault("26: three numbers", "m2 412;", 5);
        fault("26: three numbers", "m24 12;", 6);
        fault("26: two numbers side by side are one", "o113;", 3);
        fault("26: other bytes are no blanks", "g2,4;", 2);
        fault("26: other bytes are no blanks", "g2\n4;", 2);
        fault("26: other bytes are no blanks", "g2" + (char) 0 + "4;", 2);
    }

    private static void numbersOfTwoFigures() {
        Seen due = Seen.of(Run.of("inputs 2", "gate 2 5", "out 1 6", "pattern 3", "pattern 0"));
        for (String text : new String[] {"i2;g2 5;o1 6;p3;p0;", "i02;g02 05;o01 06;p03;p00;", "i02;g2 05;o1 06;p03;p0;"}) {
            done("26: 1 or 2 figures", Runs.fresh(), text, 5);
            EDGES.holds("26: the same by '" + text + "'", due.sameCircuit(Seen.of(Runs.fresh().types(text).then("does"))));
        }
        Run x = Runs.nodes(5, 47);
        done("26: 9 and 10", x, "o0 9;o0 10;g19 20;o1 90;o1 09;", 5);
        Run y = x.types("o0 9;o0 10;g19 20;o1 90;o1 09;").then("does");
        EDGES.asksEach("26: 9 and 10", y, "outs 0", 9, 10);
        EDGES.asksEach("26: 90 and 09", y, "outs 1", 90, 9);
        EDGES.asksEach("26: 19 and 20", y, "of 47", 19, 20);
    }

    // ---- 26: "ORDERS are done (THE TEXT stays): how many."

    private static void mostOrdersOfAll() {
        done("26: one, the least of all", Runs.fresh(), "i1;", 1);
        done("26: 49", Runs.fresh(), "i1;".repeat(49), 49);
        done("26: 50 in 150 bytes", Runs.fresh(), "i1;".repeat(49) + "i4;", 50);
        EDGES.due("26: the 50th is done", Runs.fresh().types("i1;".repeat(49) + "i4;").then("does").answer("count 0"), 4);
        done("26: one of 150 bytes", Runs.fresh(), " ".repeat(147) + "p7;", 1);
        done("26: one of 150 bytes", Runs.fresh(), "p7;" + " ".repeat(147), 1);
        done("26: one of 150 bytes", Runs.fresh(), "m" + " ".repeat(70) + "2" + " ".repeat(70) + "4 06" + "   ;", 1);
        done("26: the text that tests use", Runs.fresh(), Runs.LONGEST_TEXT, 7);
    }

    /** "an ORDER that its call would refuse then ends all, nothing is done"; "-1000 less the number (0 on)" */
    private static void orderRefusedEndsAll() {
        ends("26: the first", Runs.fresh(), "i6;", -1000);
        ends("26: the first of two", Runs.fresh(), "i6;i0;", -1000);
        ends("26: the second", Runs.fresh(), "i2;i6;", -1001);
        ends("26: the second, others behind it", Runs.fresh(), "g2 4;i6;g2 4;i6;", -1001);
        ends("26: the 10th", Runs.fresh(), "i2;".repeat(10) + "o2 0;", -1010);
        ends("26: the 50th", Runs.fresh(), "i2;".repeat(49) + "i0;", -1049);
        ends("26: all goes back", Runs.some().then("clear"), "i5;x2 4;o0 13;p31;p32;", -1004);
        ends("26: all goes back", Runs.full(2).then("clear"), "i5;x2 4;o0 13;p31;g18 0;", -1004);
        ends("26: all goes back", Runs.full(2).then("clear", "swept 4"), "i5;x2 4;o0 13;p31;g18 0;", -1004);
    }

    private static void ordersSeeThoseAhead() {
        done("26: a GATE of the one ahead", Runs.fresh(), "g2 4;g8 9;o1 10;", 3);
        ends("26: a GATE of one behind", Runs.fresh(), "g8 9;g2 4;", -1000);
        ends("26: an OUT of one behind", Runs.fresh(), "o0 8;g2 4;", -1000);
        done("26: ROWS of the INPUTS by then", Runs.fresh(), "p7;i5;p31;i1;p1;", 5);
        ends("26: ROWS of the INPUTS by then", Runs.fresh(), "i5;p31;i1;p2;", -1003);
        ends("26: GATES are gone by inputs", Runs.fresh(), "g2 4;o0 8;i3;o0 8;", -1003);
        done("26: a full one is emptied first", Runs.full(5).then("clear"), "i5;g2 4;o0 11;p31;", 4);
        done("26: filled by then", Runs.nodes(2, 47), "g2 4;o0 95;", 2);
        ends("26: filled by then", Runs.nodes(2, 47), "g2 4;g2 4;", -1001);
    }

    private static void inputsInText() {
        for (String v : new String[] {"1", "01", "5", "05"}) {
            done("26: i", Runs.some().then("clear"), "i" + v + ";", 1);
        }
        for (String v : new String[] {"0", "00", "6", "06", "10", "51", "99"}) {
            ends("26: i refused", Runs.some().then("clear"), "i" + v + ";", -1000);
        }
    }

    private static void gatesInText() {
        Run x = Run.of("inputs 1");
        for (String v : new String[] {"0 0", "3 3", "0 3", "3 0", "03 00"}) {
            done("26: g", x, "g" + v + ";", 1);
        }
        for (String v : new String[] {"4 0", "0 4", "5 5", "99 0", "0 99"}) {
            ends("26: g refused as BAD", x, "g" + v + ";", -1000);
        }
        done("26: g, the 48th NODE", Runs.nodes(3, 47), "g93 93;", 1);
        ends("26: g refused as FULL", Runs.nodes(3, 48), "g95 95;", -1000);
        done("26: g, 42 NODES more", Run.of("inputs 5").times(14, "xor 2 3").then("back"), "g2 4;g2 4;g2 4;", 3);
        ends("26: g, one too many", Run.of("inputs 5").times(14, "xor 2 3").then("back"), "g2 4;g2 4;g2 4;g2 4;", -1003);
    }

    private static void threeGatesInText() {
        Run x = Runs.nodes(3, 45);
        done("26: x, the 48th NODE", x, "x89 0;", 1);
        done("26: m, the 48th NODE", x, "m89 0 89;", 1);
        ends("26: x refused as BAD", x, "x90 0;", -1000);
        ends("26: x refused as BAD", x, "x0 90;", -1000);
        ends("26: m refused as BAD", x, "m90 0 0;", -1000);
        ends("26: m refused as BAD", x, "m0 90 0;", -1000);
        ends("26: m refused as BAD", x, "m0 0 90;", -1000);
        for (int nodes = 46; nodes <= 48; nodes++) {
            ends("26: x refused as FULL", Runs.nodes(3, nodes), "x2 4;", -1000);
            ends("26: m refused as FULL", Runs.nodes(3, nodes), "m2 4 6;", -1000);
        }
        ends("26: x behind x", x, "x2 4;x2 4;", -1001);
        ends("26: m behind g", x, "g2 4;m2 4 6;", -1001);
    }

    private static void outsInText() {
        Run x = Runs.nodes(4, 48);
        done("26: o", x, "o0 0;o1 0;o0 95;o1 95;", 4);
        for (String v : new String[] {"0 96", "1 96", "0 99", "2 0", "02 0", "10 0", "99 0"}) {
            ends("26: o refused as BAD", x, "o" + v + ";", -1000);
        }
        done("26: o, six of a SIDE", x, "o0 1;".repeat(6), 6);
        ends("26: o refused as FULL", x, "o0 1;".repeat(7), -1006);
        ends("26: o refused as FULL", x, "o1 1;".repeat(7), -1006);
        done("26: o, six of each", x, "o0 1;o1 1;".repeat(6), 12);
        ends("26: o refused as FULL", x.times(6, "out 0 3"), "o1 3;o0 3;", -1001);
    }

    private static void patternsInText() {
        for (int n = 1; n <= 5; n++) {
            Run x = Run.of("inputs " + n);
            done("26: p", x, "p0;p" + ((1 << n) - 1) + ";", 2);
            ends("26: p refused as BAD", x, "p0;p" + (1 << n) + ";", -1001);
        }
        ends("26: p refused as BAD", Run.of("inputs 5"), "p99;", -1000);
        done("26: p, twelve", Runs.fresh(), "p7;".repeat(12), 12);
        ends("26: p refused as FULL", Runs.fresh(), "p7;".repeat(13), -1012);
        ends("26: p refused as FULL", Runs.fresh().times(11, "pattern 0"), "p7;p7;", -1001);
    }

    /** "(THE TEXT stays)" */
    private static void textStays() {
        Run x = Runs.fresh().types("g2 4;");
        EDGES.due("26: THE TEXT stays", x.then("does").answer("told 3"), 5);
        EDGES.takes("26: and is done once more", x.then("does"), "does", 1);
        EDGES.takes("26: with what comes behind it", x.then("does").types("p7;"), "does", 2);
        EDGES.due("26: a NODE each time", x.then("does", "does", "does").answer("count 1"), 7);
        Run y = Runs.fresh().types("i6;");
        EDGES.due("26: THE TEXT stays though refused", y.then("does").answer("told 3"), 3);
        EDGES.asks("26: and is refused once more", y.then("does"), "does", -1000);
        Run z = Runs.fresh().types("i6");
        EDGES.due("26: THE TEXT stays by a FAULT", z.then("does").answer("told 3"), 2);
        EDGES.asks("26: and goes on", z.then("does").types(";"), "does", -1000);
    }

    /** "S (one STATE for all)" */
    private static void oneStateForAll() {
        for (String text : new String[] {"p1;", "p1;p2;", "p1;".repeat(12), "i2;".repeat(50)}) {
            Run x = Run.of("gate 2 4").types(text).then("does");
            EDGES.due("26: one STATE for '" + text + "'", x.answer("told 4"), 2);
            EDGES.due("26: back at once", x.answer("back"), 1);
            EDGES.due("26: back to the GATE", x.then("back").answer("count 1"), 5);
            EDGES.due("26: back to no PATTERN", x.then("back").answer("count 4"), 0);
        }
        Run full = Runs.fresh().times(5, "gate 2 4").types("p1;p2;p3;").then("does");
        EDGES.due("26: one is lost, not three", full.answer("told 4"), 5);
        EDGES.due("26: the oldest that is left", full.then("back", "back", "back", "back", "back").answer("count 1"), 5);
    }
}
