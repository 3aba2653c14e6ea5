/** Promises 1 to 9: the yard, its text and what is told of it. */
public final class YardTest {
    private static final int NONE = Check.NONE, UNKNOWN = Check.UNKNOWN, OUTSIDE = Check.OUTSIDE;
    private static final int NOT = Check.NOT, FULL = Check.FULL;
    private static final String START = "y0 1 0;";
    private static final String FOUR_CREDITORS = "c1 0;c2 0;c3 0;c4 0;";

    public static void main(String[] args) {
        newObject();
        feed();
        yardOfTexts();
        faultsOfWords();
        faultsOfNumbers();
        tooMany();
        fullText();
        yardBeginsAnew();
        faultyYardChangesNothing();
        emptyYardEndsTheYard();
        told();
        toldSets();
        accepts();
        debtor();
        owes();
        place();
        Check.end();
    }

    private static void newObject() {
        Counted x = new Counted();
        for (int what = 0; what <= 20; what++) Check.due("1 told " + what, x.told(what), 0);
        Check.due("1 fault", x.fault(), NONE);
        Check.due("1 debtor", x.debtor(0, 0), UNKNOWN);
        Check.due("1 accepts", x.accepts(0, 0), UNKNOWN);
        Check.due("1 place", x.place(0, 0), UNKNOWN);
        Check.due("1 goIn", x.goIn(0), UNKNOWN);
        Check.due("1 week", x.week(1), NOT);
        Check.due("1 drift", x.drift(1), NOT);
        Check.due("1 undo", x.undo(), NOT);
        Check.due("1 goBack", x.goBack(0), NOT);
        Check.due("1 outing", x.outing(99, 2), 0);
        Check.due("1 composition", x.composition(100, 0), 0);
        Check.due("1 composition binds", x.composition(100, 1), 0);
        Check.due("1 over", x.over(0), 61);
        Check.due("1 judge", x.judge(), NONE);
        Check.due("1 seed", x.seed(1), 0);
    }

    private static void feed() {
        Counted x = new Counted();
        Check.due("2 below", x.feed(-1), OUTSIDE);
        Check.due("2 above", x.feed(256), OUTSIDE);
        Check.due("2 the least", x.feed(0), 1);
        Check.due("2 the greatest", x.feed(255), 2);
        for (int i = 3; i <= 240; i++) Check.due("2 letter", x.feed(' '), i);
        Check.due("2 full", x.feed(' '), FULL);
        Check.due("2 outside ahead of full", x.feed(256), OUTSIDE);
        Check.due("2 letters", x.told(6), 240);
    }

    private static void text(String text, int answer, int fault) {
        Counted x = new Counted();
        Check.feed(x, text);
        Check.due("3 [" + text + "]", x.yard(), answer);
        Check.due("4 [" + text + "]", x.fault(), fault);
        Check.due("3 text is empty behind [" + text + "]", x.told(6), 0);
    }

    private static void yardOfTexts() {
        text("", 0, NONE);
        text("  ", 0, NONE);
        text("y0 1 0;", 0, NONE);
        text("y000 006 006;", 0, NONE);
        text("y99 6 6;", 0, NONE);
        text("  y 0  1 0 ;  c 1 0 ; d 0 1 0 ; p 0 0 0 ; ", 1, NONE);
        text(START + FOUR_CREDITORS + "d3 999 99;d0 1 0;d0 1 0;d0 1 0;d0 1 0;d0 1 0;", 6, NONE);
        text(START + "p20 20 99;p0 0 0;p0 0 0;p0 0 0;p0 0 0;p0 0 0;c100 20;", 0, NONE);
        text(Check.TOWN, 4, NONE);
    }

    private static void faultsOfWords() {
        text("c1 1;", -11, 0);
        text(" d0 1 0;", -11, 1);
        text("Y0 1 0;", -11, 0);
        text("7", -11, 0);
        text(";", -11, 0);
        text("y", -11, 1);
        text("yy", -11, 1);
        text("y;", -11, 1);
        text("y0", -11, 2);
        text("y0 1;", -11, 4);
        text("y0 1 0", -11, 6);
        text("y0 1 0 ", -11, 7);
        text("y0 1 0 0;", -11, 7);
        text("y0 1 0 1000;", -11, 7);
        text("y0 1 0c", -11, 6);
        text("y0,1 0;", -11, 2);
        text("y0\t1 0;", -11, 2);
        text("y-1 1 0;", -11, 1);
        text(START + "x", -11, 7);
        text(START + ";", -11, 7);
        text(START + "5", -11, 7);
        text(START + "  \u00e9", -11, 9);
        text(START + "\u0000", -11, 7);
        text(START + "c1;", -11, 9);
        text(START + "c1 0 0;", -11, 12);
        text(START + "c1 y", -11, 10);
        text(START + "p0 0;", -11, 11);
    }

    private static void faultsOfNumbers() {
        text("y100 1 0;", -12, 1);
        text("y0 0 0;", -12, 3);
        text("y0 7 0;", -12, 3);
        text("y0 1 7;", -12, 5);
        text("y  0000 1 0;", -12, 3);
        text("y1234567890123", -12, 1);
        text("y100x", -12, 1);
        text(START + "c0 0;", -12, 8);
        text(START + "c101 0;", -12, 8);
        text(START + "c1 21;", -12, 10);
        text(START + "d0 1 0;", -12, 8);
        text(START + "c1 0;d1 1 0;", -12, 13);
        text(START + "c1 0;d 1 1 0;c1 0;", -12, 14);
        text(START + FOUR_CREDITORS + "d4 1 0;", -12, 28);
        text(START + "c1 0;d0 0 0;", -12, 15);
        text(START + "c1 0;d0 1000 0;", -12, 15);
        text(START + "c1 0;d0 1 100;", -12, 17);
        text(START + "p21 0 0;", -12, 8);
        text(START + "p0 21 0;", -12, 10);
        text(START + "p0 0 100;", -12, 12);
    }

    private static void tooMany() {
        text(START + "y", -13, 7);
        text(START + " y0 1 0;", -13, 8);
        text(START + FOUR_CREDITORS + "c", -13, 27);
        text(START + FOUR_CREDITORS + "c0 0;", -13, 27);
        text(START + "c1 0;d0 1 0;d0 1 0;d0 1 0;d0 1 0;d0 1 0;d0 1 0;d9", -13, 54);
        text(START + "p0 0 0;p0 0 0;p0 0 0;p0 0 0;p0 0 0;p0 0 0;p0 0 0;", -13, 49);
    }

    private static void fullText() {
        StringBuilder blanks = new StringBuilder();
        while (blanks.length() < 233) blanks.append(' ');
        text(START + blanks, 0, NONE);
        text(blanks + START, 0, NONE);
        text(blanks + "y0 1 0 ", -11, 240);
        StringBuilder figures = new StringBuilder("y");
        while (figures.length() < 240) figures.append('9');
        text(figures.toString(), -12, 1);
    }

    private static void yardBeginsAnew() {
        Counted x = Check.told(Check.TOWN);
        x.goIn(0);
        x.goIn(3);
        x.week(1);
        x.lend(0, 3, 10);
        x.keep(0);
        x.keep(1);
        x.week(1);
        x.hat(5, true);
        x.write(0, 0);
        x.seed(77);
        Check.feed(x, Check.TOWN);
        Check.due("3 again", x.yard(), 4);
        Check.same("3 all is new", Check.allOf(x), Check.allOf(Check.told(Check.TOWN)));
        Check.due("3 images are gone", x.goBack(0), NOT);
        Check.due("3 both images are gone", x.goBack(1), NOT);
        Check.due("3 nothing can be undone", x.undo(), NOT);
        Check.due("3 the seed stays", x.seed(0), 77);
    }

    private static void faultyYardChangesNothing() {
        Counted x = Check.told(Check.TOWN);
        x.goIn(0);
        x.goIn(3);
        x.keep(1);
        x.week(1);
        x.lend(0, 3, 10);
        x.hat(5, true);
        x.write(0, 0);
        String before = Check.allOf(x);
        Check.feed(x, "y1 1 1;c1 1;p");
        Check.due("3 faulty", x.yard(), -11);
        Check.due("4 faulty", x.fault(), 13);
        Check.same("3 all else is as it was", Check.allOf(x), before);
        Check.due("3 what can be undone stays", x.told(20), 2);
        Check.due("3 undo stays", x.undo(), 1);
        Check.due("3 the image stays", x.goBack(1), 1);
        Check.feed(x, START);
        x.yard();
        Check.due("4 none behind a faultless text", x.fault(), NONE);
    }

    private static void emptyYardEndsTheYard() {
        Counted x = Check.told(Check.TOWN);
        x.goIn(0);
        x.week(2);
        x.hat(1, true);
        x.keep(0);
        Check.due("3 empty", x.yard(), 0);
        Check.same("3 no yard", Check.allOf(x), Check.allOf(new Counted()));
        Check.due("3 no weeks", x.week(1), NOT);
        Check.due("3 no image", x.goBack(0), NOT);
        Check.due("3 no debtor", x.goIn(0), UNKNOWN);
    }

    private static void told() {
        Counted x = Check.told(Check.TOWN);
        int[] first = {10, 2, 1, 2, 4, 4, 0, 0, 0, 15, 0, 0, 4, 0, 0, 0, 12, 0, 0, 0, 0};
        for (int what = 0; what <= 20; what++) Check.due("5 first " + what, x.told(what), first[what]);
        Check.due("5 below", x.told(-1), OUTSIDE);
        Check.due("5 above", x.told(21), OUTSIDE);
        x.feed('y');
        x.hat(1, true);
        x.hat(2, true);
        x.write(0, 0);
        x.goIn(0);
        x.goIn(3);
        x.week(1);
        x.lend(0, 3, 15);
        int[] then = {10, 2, 1, 2, 4, 4, 1, 1, 9, 2, 0, 4, 2, 13, 1, 20, 5, 0, 2, 1, 4};
        for (int what = 0; what <= 20; what++) Check.due("5 then " + what, x.told(what), then[what]);
    }

    private static void toldSets() {
        Counted x = Check.told("y9 3 2;c100 0;d0 10 20;d0 20 8;d0 20 20;d0 5 9;d0 20 0;d0 1 40;");
        Check.due("5 next, of like ones the least", x.told(12), 2 + 4);
        Check.due("5 price behind 3", x.told(16), 9);
        x.goIn(0);
        x.goIn(1);
        x.goIn(3);
        Check.due("5 next of those out", x.told(12), 4 + 16);
        Check.due("5 safe: who pays just what comes in stays", x.told(13), 1 + 8);
        x.week(1);
        Check.due("5 in", x.told(8), 1 + 8);
        Check.due("5 out", x.told(9), 2 + 32);
        Check.due("5 gaol", x.told(11), 4 + 16);
        Check.due("5 arrested", x.told(14), 2);
        Check.due("5 lodging", x.told(15), 27);
        Check.due("5 price of those left", x.told(16), 8);
        x.lend(0, 3, 11);
        x.lend(3, 0, 1);
        x.sue(0, 3);
        Check.due("5 paid, still in", x.told(8), 1 + 8);
        x.settle(0);
        Check.due("5 free", x.told(10), 1);
        Check.due("5 safe are the free, the gaoled", x.told(13), 1 + 4 + 8 + 16);
        Check.due("5 price, if there is none", x.told(16), 0);
        chainedDebts();
    }

    private static void chainedDebts() {
        Counted x = Check.told(Check.RICH);
        for (int d = 0; d < 6; d++) x.goIn(d);
        x.week(2);
        x.lend(0, 1, 50);
        x.lend(1, 2, 30);
        x.lend(2, 0, 20);
        Check.due("5 cleared: 100 less 30 and 0 and ..", x.told(17), 70);
        Check.due("7 net", x.debtor(0, 6), 10030);
        Check.due("7 net below", x.debtor(1, 6), 9980);
        Check.due("7 net below 2", x.debtor(2, 6), 9990);
        Check.due("7 net of nothing", x.debtor(4, 6), 10000);
    }

    private static void accepts() {
        Counted x = Check.told("y0 1 0;c80 10;c4 1;c100 0;c5 20;");
        Check.due("6 at first", x.accepts(0, 0), 80);
        Check.due("6 later", x.accepts(0, 7), 10);
        Check.due("6 5 at least", x.accepts(0, 8), 5);
        Check.due("6 the last week", x.accepts(0, 9999), 5);
        Check.due("6 no more than P", x.accepts(1, 0), 4);
        Check.due("6 no less than P below 5", x.accepts(1, 9999), 4);
        Check.due("6 no less each week", x.accepts(2, 9999), 100);
        Check.due("6 the last one", x.accepts(3, 1), 5);
        Check.due("6 unknown", x.accepts(4, 0), UNKNOWN);
        Check.due("6 below", x.accepts(-1, 0), UNKNOWN);
        Check.due("6 outside", x.accepts(0, 10000), OUTSIDE);
        Check.due("6 outside below", x.accepts(0, -1), OUTSIDE);
        Check.due("6 unknown ahead of outside", x.accepts(4, -1), UNKNOWN);
    }

    private static void debtor() {
        Counted x = Check.told(Check.TOWN);
        int[] first = {1, 300, 12, 0, 10000, 12, 10000};
        for (int what = 0; what <= 6; what++) Check.due("7 debtor 2 " + what, x.debtor(2, what), first[what]);
        Check.due("7 outside", x.debtor(0, 7), OUTSIDE);
        Check.due("7 outside below", x.debtor(0, -1), OUTSIDE);
        Check.due("7 unknown", x.debtor(4, 0), UNKNOWN);
        Check.due("7 unknown below", x.debtor(-1, 0), UNKNOWN);
        Check.due("7 unknown ahead of outside", x.debtor(4, 7), UNKNOWN);
        Counted cut = Check.told("y0 1 0;c33 1;c1 0;d0 10 0;d1 1 0;d1 999 0;d0 100 0;");
        Check.due("7 cost, 1 more if not whole", cut.debtor(0, 5), 4);
        Check.due("7 cost at least 1", cut.debtor(1, 5), 1);
        Check.due("7 cost just below whole", cut.debtor(2, 5), 10);
        Check.due("7 cost whole", cut.debtor(3, 5), 33);
        cut.week(3);
        Check.due("7 cost now whole", cut.debtor(0, 5), 3);
    }

    private static void owes() {
        Counted x = Check.told(Check.RICH);
        x.goIn(0);
        x.goIn(1);
        x.week(1);
        x.lend(0, 1, 40);
        Check.due("8 owes", x.owes(1, 0), 40);
        Check.due("8 the other way about", x.owes(0, 1), 0);
        Check.due("8 nothing", x.owes(5, 4), 0);
        Check.due("8 one twice", x.owes(1, 1), UNKNOWN);
        Check.due("8 unknown", x.owes(6, 0), UNKNOWN);
        Check.due("8 unknown other", x.owes(0, 6), UNKNOWN);
        Check.due("8 unknown below", x.owes(-1, 0), UNKNOWN);
        Check.due("8 unknown other below", x.owes(0, -1), UNKNOWN);
    }

    private static void place() {
        Counted x = Check.told(Check.TOWN);
        Check.due("9 x", x.place(0, 0), 3);
        Check.due("9 y", x.place(0, 1), 4);
        Check.due("9 worth", x.place(0, 2), 10);
        Check.due("9 the last one", x.place(3, 2), 1);
        Check.due("9 outside", x.place(0, 3), OUTSIDE);
        Check.due("9 outside below", x.place(0, -1), OUTSIDE);
        Check.due("9 unknown", x.place(4, 0), UNKNOWN);
        Check.due("9 unknown below", x.place(-1, 0), UNKNOWN);
        Check.due("9 unknown ahead of outside", x.place(4, 3), UNKNOWN);
    }
}
