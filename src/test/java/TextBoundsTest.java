/** Section 1 and promises 2 to 4: each sentence of the document that names a boundary of THE TEXT. */
public final class TextBoundsTest {
    private static final int NONE = Check.NONE, OUTSIDE = Check.OUTSIDE, FULL = Check.FULL, NOT = Check.NOT;
    private static final String START = "y0 1 0;";
    private static final String ONE_CREDITOR = START + "c1 0;";

    /** Has every kind of clause, as many as can be, and no NUMBER of which the first figures alone are out of bounds. */
    private static final String WHOLE = "y99 6 6;c100 20;c1 0;c50 10;c25 15;d0 999 99;d1 100 10;d2 250 25;d3 50 5;d0 1 0;d3 120 12;"
            + "p20 20 99;p10 10 10;p15 12 55;p0 0 0;p1 2 3;p11 13 44;";

    public static void main(String[] args) {
        lettersAtMost();
        lettersThatCanBeFed();
        boundsOfTheYard();
        boundsOfCreditors();
        boundsOfDebtors();
        boundsOfPlaces();
        firstAndOnce();
        howManyOfAKind();
        figures();
        blanksAnywhere();
        blanksWithinNumbers();
        numbersSideBySide();
        lettersThatAreNoWord();
        wordsInTheWrongPlace();
        theEnd();
        fourFiguresOrMore();
        creditorsNotToldYet();
        theFirstLetterThatHasOne();
        theLeastOfThese();
        emptyText();
        theTextIsEmptyThen();
        faultOfTheLatest();
        Check.end();
    }

    private static void text(String text, int answer, int fault) {
        Counted x = new Counted();
        Check.feed(x, text);
        Check.due("yard of [" + text + "]", x.yard(), answer);
        Check.due("fault of [" + text + "]", x.fault(), fault);
    }

    private static String blanks(int many) {
        return " ".repeat(many);
    }

    // ---- 240 letters

    private static void lettersAtMost() {
        Check.sentence("THE YARD is told in a text (240 letters at most)");
        String most = WHOLE + blanks(239 - WHOLE.length());
        Counted x = new Counted();
        for (int i = 0; i < 239; i++) Check.due("letter " + i, x.feed(most.charAt(i)), i + 1);
        Check.due("the last one that is allowed", x.feed(' '), 240);
        Check.due("the first one that is not", x.feed('x'), FULL);
        Check.due("and no other", x.feed(';'), FULL);
        Check.due("240 stand", x.told(6), 240);
        Check.due("what was refused is not in it", x.yard(), 6);
        Check.due("there is room again", x.feed('y'), 1);
        text(blanks(233) + START, 0, NONE);
        text(blanks(232) + START + "p", -11, 240);
        text(blanks(232) + START + "x", -11, 239);
        text(blanks(232) + START + "y", -13, 239);
        text("y" + "1".repeat(239), -12, 1);
        text(blanks(239) + "y", -11, 240);
        text(blanks(240), 0, NONE);
    }

    private static void lettersThatCanBeFed() {
        Check.sentence("One letter (a number 0 .. 255) comes behind THE TEXT: how many it has. OUTSIDE, FULL (240).");
        Counted x = new Counted();
        Check.due("below the least", x.feed(-1), OUTSIDE);
        Check.due("far below", x.feed(Integer.MIN_VALUE), OUTSIDE);
        Check.due("above the greatest", x.feed(256), OUTSIDE);
        Check.due("far above", x.feed(Integer.MAX_VALUE), OUTSIDE);
        Check.due("nothing came behind it", x.told(6), 0);
        for (int letter = 0; letter < 240; letter++) Check.due("letter " + letter, x.feed(letter), letter + 1);
        Check.due("outside and full: outside", x.feed(-1), OUTSIDE);
        Check.due("outside above and full: outside", x.feed(256), OUTSIDE);
        Check.due("full alone", x.feed(255), FULL);
        Counted rest = new Counted();
        for (int letter = 240; letter <= 255; letter++) Check.due("letter " + letter, rest.feed(letter), letter - 239);
    }

    // ---- the bounds of each NUMBER

    /** Every NUMBER from 0 to 1000 between these two: it is taken within its bounds, and a FAULT at its first figure else. */
    private static void bounds(String ahead, String behind, int least, int greatest) {
        for (int n = 0; n <= 1000; n++) {
            Counted x = new Counted();
            Check.feed(x, ahead + n + behind);
            boolean fits = least <= n && n <= greatest;
            int answer = x.yard();
            Check.due(ahead + "[" + n + "]" + behind + " has a fault", answer < 0 ? 1 : 0, fits ? 0 : 1);
            Check.due(ahead + "[" + n + "]" + behind + " its fault's letter", x.fault(), fits ? NONE : ahead.length());
            if (!fits) Check.due(ahead + "[" + n + "]" + behind + " its fault", answer, -12);
        }
        text(ahead + "-1" + behind, -11, ahead.length());
    }

    private static void boundsOfTheYard() {
        Check.sentence("'y' L R B ';' (lodging costs L a WEEK, 0 .. 99; R ROOMS, 1 .. 6; B BAILIFFS, 0 .. 6; first, once)");
        bounds("y", " 1 0;", 0, 99);
        bounds("y0 ", " 0;", 1, 6);
        bounds("y0 1 ", ";", 0, 6);
        for (int n = 0; n <= 99; n++) Check.due("L", Check.told("y" + n + " 1 0;").told(0), n);
        for (int n = 1; n <= 6; n++) Check.due("R", Check.told("y0 " + n + " 0;").told(1), n);
        for (int n = 0; n <= 6; n++) Check.due("B", Check.told("y0 1 " + n + ";").told(2), n);
    }

    private static void boundsOfCreditors() {
        Check.sentence("'c' P K ';' (4 CREDITORS at most: accepts P of a hundred at first, 1 .. 100, K less each WEEK, 0 .. 20, "
                + "5 at least, but no more than P)");
        bounds(START + "c", " 0;", 1, 100);
        bounds(START + "c100 ", ";", 0, 20);
        for (int n = 1; n <= 100; n++) Check.due("P", Check.told(START + "c" + n + " 0;").accepts(0, 0), n);
        for (int n = 0; n <= 20; n++) Check.due("K", Check.told(START + "c100 " + n + ";").accepts(0, 1), 100 - n);
    }

    private static void boundsOfDebtors() {
        Check.sentence("'d' C S H ';' (6 DEBTORS at most: owes CREDITOR C told ahead S, 1 .. 999; H comes in a WEEK, 0 .. 99)");
        String creditors = START;
        for (int c = 1; c <= 4; c++) {
            creditors += "c1 0;";
            bounds(creditors + "d", " 1 0;", 0, c - 1);
            for (int n = 0; n < c; n++) Check.due("C", Check.told(creditors + "d" + n + " 1 0;").debtor(0, 0), n);
        }
        bounds(ONE_CREDITOR + "d0 ", " 0;", 1, 999);
        bounds(ONE_CREDITOR + "d0 1 ", ";", 0, 99);
        for (int n = 1; n <= 999; n++) Check.due("S", Check.told(ONE_CREDITOR + "d0 " + n + " 0;").debtor(0, 1), n);
        for (int n = 0; n <= 99; n++) Check.due("H", Check.told(ONE_CREDITOR + "d0 1 " + n + ";").debtor(0, 2), n);
    }

    private static void boundsOfPlaces() {
        Check.sentence("'p' X Y V ';' (6 PLACES at most in the town: at X, Y, each 0 .. 20; worth V, 0 .. 99)");
        bounds(START + "p", " 0 0;", 0, 20);
        bounds(START + "p0 ", " 0;", 0, 20);
        bounds(START + "p0 0 ", ";", 0, 99);
        for (int n = 0; n <= 20; n++) Check.due("X", Check.told(START + "p" + n + " 0 0;").place(0, 0), n);
        for (int n = 0; n <= 20; n++) Check.due("Y", Check.told(START + "p0 " + n + " 0;").place(0, 1), n);
        for (int n = 0; n <= 99; n++) Check.due("V", Check.told(START + "p0 0 " + n + ";").place(0, 2), n);
    }

    // ---- how many of a kind

    private static void firstAndOnce() {
        Check.sentence("another word first than 'y'");
        for (String word : new String[] {"c", "d", "p", ";"}) {
            text(word, -11, 0);
            text("   " + word, -11, 3);
            text(word + "1 1 1;" + START, -11, 0);
        }
        Check.sentence("3 'y' again");
        text(START + "y", -13, 7);
        text(START + "y0 1 0;", -13, 7);
        text(START + "c1 0;p0 0 0;  y", -13, 21);
        Counted x = Check.told(START);
        Check.feed(x, "y9 2 1;");
        Check.due("in another text it may stand", x.yard(), 0);
        Check.due("that one stands then", x.told(0), 9);
    }

    private static void howManyOfAKind() {
        Check.sentence("a fifth 'c', a seventh 'd', 'p' (at it)");
        kind(START, "c1 0;", 4, 3);
        kind(ONE_CREDITOR, "d0 1 0;", 6, 4);
        kind(START, "p0 0 0;", 6, 5);
        Counted x = Check.told(WHOLE);
        Check.due("all creditors", x.told(3), 4);
        Check.due("all debtors", x.told(4), 6);
        Check.due("all places", x.told(5), 6);
        text(WHOLE + "c", -13, WHOLE.length());
        text(WHOLE + "d", -13, WHOLE.length());
        text(WHOLE + "  p", -13, WHOLE.length() + 2);
        text(WHOLE + "y", -13, WHOLE.length());
    }

    private static void kind(String ahead, String clause, int most, int what) {
        for (int many = 0; many <= most; many++) {
            Check.due(many + " of " + clause, Check.told(ahead + clause.repeat(many)).told(what), many);
        }
        String full = ahead + clause.repeat(most);
        text(full + clause, -13, full.length());
        text(full + clause.charAt(0), -13, full.length());
        text(full + clause.charAt(0) + "x", -13, full.length());
        text(full + clause.repeat(2), -13, full.length());
    }

    // ---- NUMBERS, blanks

    private static void figures() {
        Check.sentence("NUMBERS have one to three figures");
        text("y1 2 3;", 0, NONE);
        text("y01 02 03;", 0, NONE);
        text("y001 002 003;", 0, NONE);
        Check.due("of three figures", Check.told("y007 006 005;").told(0), 7);
        Check.due("of two figures", Check.told("y07 06 05;").told(1), 6);
        Check.due("zeros alone", Check.told("y000 001 000;").told(2), 0);
        text("y0001 2 3;", -12, 1);
        text("y1 0002 3;", -12, 3);
        text("y1 2 0003;", -12, 5);
        text("y 2 3;", -11, 5);
        text(ONE_CREDITOR + "d000 999 099;", 1, NONE);
        text(ONE_CREDITOR + "d0000 999 099;", -12, 13);
    }

    private static void blanksAnywhere() {
        Check.sentence("blanks (32) may stand anywhere but within NUMBERS");
        String dense = "y10 2 1;c80 10;d0 100 30;p13 14 15;";
        String want = Check.allOf(Check.told(dense));
        for (int at = 0; at <= dense.length(); at++) {
            boolean within = at > 0 && at < dense.length() && isFigure(dense.charAt(at - 1)) && isFigure(dense.charAt(at));
            if (within) continue;
            String wide = dense.substring(0, at) + "   " + dense.substring(at);
            Check.same("[" + wide + "]", Check.allOf(Check.told(wide)), want);
        }
        String widest = "  y  10  2  1  ;  c  80  10  ;  d  0  100  30  ;  p  13  14  15  ;  ";
        Check.same("blanks everywhere", Check.allOf(Check.told(widest)), want);
        for (int letter = 0; letter <= 255; letter++) {
            if (letter == ' ') continue;
            if (letter != 'y') text((char) letter + START, -11, 0);
            if (!isFigure((char) letter)) text("y0" + (char) letter + "1 0;", -11, 2);
        }
    }

    private static boolean isFigure(char letter) {
        return letter >= '0' && letter <= '9';
    }

    private static void blanksWithinNumbers() {
        Check.sentence("blanks (32) may stand anywhere but within NUMBERS");
        text("y1 0 1 0;", -12, 3);
        text("y1 1 1 0;", -11, 7);
        text("y1 6 6 ;", 0, NONE);
        text(START + "c1 0 0;", -11, 12);
        text(ONE_CREDITOR + "d0 1 00 0;", -11, 20);
        text(ONE_CREDITOR + "d0 9 9 9 99;", -11, 19);
        text(START + "p1 0 1 0 10;", -11, 14);
    }

    private static void numbersSideBySide() {
        Check.sentence("two NUMBERS side by side need one");
        text("y01 0;", -12, 4);
        text("y0 10;", -12, 3);
        text("y010;", -11, 4);
        text("y0 11;", -12, 3);
        text(START + "c10;", -11, 10);
        text(START + "c1000;", -12, 8);
        text(ONE_CREDITOR + "d0100 0;", -12, 13);
        text(ONE_CREDITOR + "d0 1000;", -12, 15);
        text(START + "p00 0;", -11, 12);
    }

    // ---- FAULT 1

    private static void lettersThatAreNoWord() {
        Check.sentence("1 it cannot stand there (a letter that is no word");
        for (int letter = 0; letter <= 255; letter++) {
            char sign = (char) letter;
            if (sign == ' ') continue;
            if (sign != 'y') text("" + sign, -11, 0);
            boolean isWord = "ycdp".indexOf(sign) >= 0;
            if (!isWord) text(START + sign, -11, 7);
            if (!isFigure(sign)) text(START + "c" + sign, -11, 8);
            if (!isFigure(sign)) text(START + "c1 " + sign, -11, 10);
            if (!isFigure(sign) && sign != ';') text(START + "c1 0" + sign, -11, 11);
            if (sign != ';') text(START + "c1 0 " + sign, -11, 12);
        }
    }

    private static void wordsInTheWrongPlace() {
        Check.sentence("1 it cannot stand there");
        for (char sign : "ycdp;".toCharArray()) {
            text("y" + sign, -11, 1);
            text("y0" + sign, -11, 2);
            text("y0 1 " + sign, -11, 5);
            if (sign != ';') text("y0 1 0" + sign, -11, 6);
            text(ONE_CREDITOR + "d" + sign, -11, 13);
            text(ONE_CREDITOR + "d0 " + sign, -11, 15);
            text(START + "p0 0 " + sign, -11, 12);
        }
        text(START + ";", -11, 7);
        text("y0 1 0 0;", -11, 7);
        text(START + "c1 0 0;", -11, 12);
        text(START + "p0 0 0 0;", -11, 14);
    }

    private static void theEnd() {
        Check.sentence("FAULTS, at the first letter that has one (the end at the text's length)");
        int debtors = 0;
        for (int length = 0; length <= WHOLE.length(); length++) {
            String cut = WHOLE.substring(0, length);
            boolean ends = length == 0 || cut.endsWith(";");
            if (cut.endsWith(";") && cut.lastIndexOf('d') > cut.lastIndexOf(';', length - 2)) debtors++;
            text(cut, ends ? debtors : -11, ends ? NONE : length);
            if (length > 200) continue;
            text(cut + "  ", ends ? debtors : -11, ends ? NONE : length + 2);
        }
        Check.due("all were counted", debtors, 6);
    }

    // ---- FAULT 2

    private static void fourFiguresOrMore() {
        Check.sentence("2 a NUMBER of four figures or more, or out of its bounds");
        for (int many = 4; many <= 100; many++) {
            text("y" + "0".repeat(many) + " 1 0;", -12, 1);
            text("y  " + "9".repeat(many), -12, 3);
            text(ONE_CREDITOR + "d0 " + "0".repeat(many - 1) + "1 0;", -12, 15);
        }
        text("y4294967296 1 0;", -12, 1);
        text("y0 4294967297 0;", -12, 3);
        text("y18446744073709551616 1 0;", -12, 1);
    }

    private static void creditorsNotToldYet() {
        Check.sentence("a CREDITOR that was not told yet (at its first)");
        text(START + "d0 1 0;c1 0;", -12, 8);
        text(START + "d  0 1 0;c1 0;", -12, 10);
        text(START + "c1 0;d1 1 0;c1 0;", -12, 13);
        text(START + "c1 0;d0 1 0;d1 1 0;c1 0;", -12, 20);
        text(START + "c1 0;d0 1 0;c1 0;d1 1 0;", 2, NONE);
        text(START + "c1 0;c1 0;c1 0;c1 0;d004 1 0;", -12, 28);
        text(START + "c1 0;c1 0;c1 0;c1 0;d003 1 0;", 1, NONE);
        text(START + "d", -11, 8);
    }

    // ---- which FAULT

    private static void theFirstLetterThatHasOne() {
        Check.sentence("FAULTS, at the first letter that has one");
        text("y100 x", -12, 1);
        text("y100 7 7;", -12, 1);
        text("y0 7 7;", -12, 3);
        text("y100x", -12, 1);
        text("y1000", -12, 1);
        text(START + "yx", -13, 7);
        text(START + "y100 0 0;", -13, 7);
        text(START + "c0 21;", -12, 8);
        text(START + "c1 0;d1 0 100;", -12, 13);
        text(START + "x" + "y0 1 0;", -11, 7);
        text(START + "p21 21 100;y", -12, 8);
        text("xc", -11, 0);
    }

    private static void theLeastOfThese() {
        Check.sentence("of these the least");
        text("y0 1 0 1000;", -11, 7);
        text("1000", -11, 0);
        text(START + "1000", -11, 7);
        text("y0 y", -11, 3);
        text("y0 1 0 y", -11, 7);
        String full = START + "c1 0;c1 0;c1 0;c1 0;d0 1 0;";
        text(full + "d0 c", -11, full.length() + 3);
        text(full + "d0 1 0 c", -11, full.length() + 7);
        String six = ONE_CREDITOR + "d0 1 0;".repeat(5);
        text(six + "d0 1 0 d", -11, six.length() + 7);
        text(ONE_CREDITOR + "d0 1 0" + "d", -11, ONE_CREDITOR.length() + 6);
    }

    // ---- promises 3, 4

    private static void emptyText() {
        Check.sentence("An empty text: no YARD.");
        Counted x = new Counted();
        Check.due("of a new object", x.yard(), 0);
        Check.due("has no fault", x.fault(), NONE);
        Check.due("no yard", x.week(1), NOT);
        Counted was = Check.told(WHOLE);
        Check.due("behind a yard", was.yard(), 0);
        Check.due("there is none then", was.week(1), NOT);
        Check.due("nor by draws", was.drift(1), NOT);
        for (int what = 0; what <= 20; what++) Check.due("told " + what, was.told(what), 0);
        Check.due("no creditor", was.accepts(0, 0), Check.UNKNOWN);
        Check.due("no debtor", was.debtor(0, 0), Check.UNKNOWN);
        Check.due("no place", was.place(0, 0), Check.UNKNOWN);
        Check.feed(was, START);
        Check.due("a yard again", was.yard(), 0);
        Check.due("it stands", was.week(1), 1);
        Check.due("it has no debtors", was.goIn(0), Check.UNKNOWN);
    }

    private static void theTextIsEmptyThen() {
        Check.sentence("THE TEXT (it is empty then, with a FAULT, too) becomes THE YARD");
        Counted x = new Counted();
        Check.feed(x, START);
        x.yard();
        Check.due("without a fault", x.told(6), 0);
        Check.feed(x, "y0 1");
        Check.due("faulty", x.yard(), -11);
        Check.due("with a fault", x.told(6), 0);
        Check.feed(x, " 0;");
        Check.due("what was there is gone", x.yard(), -11);
        Check.due("at its own letter", x.fault(), 1);
        Check.due("the next is the first", x.feed('y'), 1);
    }

    private static void faultOfTheLatest() {
        Check.sentence("The letter of the FAULT of the latest yard(); NONE.");
        Counted x = new Counted();
        Check.due("ahead of any", x.fault(), NONE);
        Check.feed(x, "x");
        Check.due("not of the text", x.fault(), NONE);
        x.yard();
        Check.due("at the first letter", x.fault(), 0);
        Check.due("again", x.fault(), 0);
        Check.feed(x, "y100 1 0;");
        Check.due("still the former", x.fault(), 0);
        x.yard();
        Check.due("then the latter", x.fault(), 1);
        x.yard();
        Check.due("none by an empty text", x.fault(), NONE);
        Check.feed(x, "y0 1 0");
        x.yard();
        Check.due("at the end", x.fault(), 6);
        Check.feed(x, START);
        x.yard();
        Check.due("none by a yard", x.fault(), NONE);
    }
}
