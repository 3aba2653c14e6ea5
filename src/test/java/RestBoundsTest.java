/** Section 3 and promises 25 to 33: each sentence of the document that names a boundary of HATS, THE BOOK, draws, IMAGES. */
public final class RestBoundsTest {
    private static final int NONE = Check.NONE, UNKNOWN = Check.UNKNOWN, OUTSIDE = Check.OUTSIDE;
    private static final int NOT = Check.NOT, FULL = Check.FULL;
    private static final long TWO_TO_THE_31 = 2147483648L;

    private static long seed = 0;

    public static void main(String[] args) {
        hatsAtMost();
        hatLines();
        overOneLine();
        overTwoLines();
        overWhat();
        lookOfFew();
        entriesAtMost();
        entriesSay();
        firstThatIsOtherwise();
        tornUp();
        seeds();
        drawsLeftOver();
        noDebtorsNoDraws();
        drawsByHand();
        images();
        imagesAreGone();
        nothingCanBeUndoneThen();
        theSeedStays();
        allCallsThatAreAllowed();
        Check.end();
    }

    // ---- HATS

    private static void hatsAtMost() {
        Check.sentence("HATS (6 at most)");
        Counted x = new Counted();
        for (int i = 1; i <= 6; i++) Check.due("hat " + i, x.hat(i, true), i);
        Check.due("a seventh", x.hat(7, true), FULL);
        Check.due("a seventh, not over", x.hat(0, false), FULL);
        Check.due("it was not taken", x.over(1), 7);
        Check.due("nor this one", x.over(2), 60);
        Check.due("six", x.told(18), 6);
        Check.due("outside and full", x.hat(61, true), OUTSIDE);
        Check.due("outside below and full", x.hat(-1, true), OUTSIDE);
        x.tear();
        Check.due("torn, there is room", x.hat(7, true), 1);
        Counted alike = new Counted();
        for (int i = 1; i <= 6; i++) Check.due("the same again counts", alike.hat(30, false), i);
        Check.due("the same once more", alike.hat(30, false), FULL);
    }

    private static void hatLines() {
        Check.sentence("at a line d (0 .. 60 inches) it was over, or not");
        Counted x = new Counted();
        Check.due("below", x.hat(-1, true), OUTSIDE);
        Check.due("above", x.hat(61, false), OUTSIDE);
        Check.due("far below", x.hat(Integer.MIN_VALUE, true), OUTSIDE);
        Check.due("far above", x.hat(Integer.MAX_VALUE, false), OUTSIDE);
        Check.due("none was taken", x.told(18), 0);
        Check.due("the least", x.hat(0, true), 1);
        Check.due("the greatest", x.hat(60, false), 2);
    }

    private static void overOneLine() {
        Check.sentence("an unknown x, 0 .. 60, is over d, if it is above d");
        for (int d = 0; d <= 60; d++) {
            Counted over = new Counted();
            over.hat(d, true);
            Check.due("over " + d + ": how many", over.over(0), 60 - d);
            Check.due("over " + d + ": the least", over.over(1), d == 60 ? NONE : d + 1);
            Check.due("over " + d + ": the greatest", over.over(2), d == 60 ? NONE : 60);
            Counted not = new Counted();
            not.hat(d, false);
            Check.due("not over " + d + ": how many", not.over(0), d + 1);
            Check.due("not over " + d + ": the least", not.over(1), 0);
            Check.due("not over " + d + ": the greatest", not.over(2), d);
        }
    }

    private static void overTwoLines() {
        Check.sentence("OVER: numbers x by which all HATS are so: how many; the least; the greatest; NONE.");
        for (int low = 0; low <= 60; low++) {
            for (int high = 0; high <= 60; high++) {
                Counted x = new Counted();
                x.hat(low, true);
                x.hat(high, false);
                int many = Math.max(0, high - low);
                Check.due("over " + low + ", not over " + high, x.over(0), many);
                Check.due("the least", x.over(1), many == 0 ? NONE : low + 1);
                Check.due("the greatest", x.over(2), many == 0 ? NONE : high);
            }
        }
    }

    private static void overWhat() {
        Check.sentence("OVER: what = 0 how many, 1 the least, 2 the greatest; NONE. OUTSIDE.");
        Counted x = new Counted();
        Check.due("no hats: how many", x.over(0), 61);
        Check.due("no hats: the least", x.over(1), 0);
        Check.due("no hats: the greatest", x.over(2), 60);
        Check.due("above", x.over(3), OUTSIDE);
        Check.due("below", x.over(-1), OUTSIDE);
        Check.due("far above", x.over(Integer.MAX_VALUE), OUTSIDE);
        x.hat(60, true);
        Check.due("none fits: how many", x.over(0), 0);
        Check.due("none fits and outside", x.over(3), OUTSIDE);
    }

    private static void lookOfFew() {
        Check.sentence("LOOK: the d (0 .. 60) by which these are told apart best: the greatest part that is alike is least; "
                + "of like ones the least; NONE: none parts them.");
        Counted x = new Counted();
        Check.due("of all 61: 30 and 31", x.look(), 29);
        x.hat(57, true);
        Check.due("of 3: 58 apart from 59, 60", x.look(), 58);
        x.hat(58, true);
        Check.due("of 2", x.look(), 59);
        x.hat(59, true);
        Check.due("of 1, the greatest", x.look(), NONE);
        x.hat(60, true);
        Check.due("of none", x.look(), NONE);
        Counted low = new Counted();
        low.hat(3, false);
        Check.due("of 4", low.look(), 1);
        low.hat(1, false);
        Check.due("of 2, the least", low.look(), 0);
        low.hat(0, false);
        Check.due("of 1, the least", low.look(), NONE);
    }

    // ---- THE BOOK

    private static void entriesAtMost() {
        Check.sentence("THE BOOK (15 at most) tells what DEBTORS are (0 .. 4)");
        Counted x = Check.told(Check.TOWN);
        for (int i = 1; i <= 15; i++) Check.due("entry " + i, x.write(0, 0), i);
        Check.due("a sixteenth", x.write(0, 1), FULL);
        Check.due("it was not taken", x.judge(), NONE);
        Check.due("fifteen", x.told(19), 15);
        Check.due("outside and full", x.write(0, 5), OUTSIDE);
        Check.due("unknown and full", x.write(4, 0), UNKNOWN);
        Check.due("all three", x.write(4, 5), UNKNOWN);
        x.tear();
        Check.due("torn, there is room", x.write(0, 1), 1);
    }

    private static void entriesSay() {
        Check.sentence("An entry behind THE BOOK (0 .. 4): how many. UNKNOWN, OUTSIDE, FULL (15).");
        Counted x = Check.told(Check.TOWN);
        Check.due("below", x.write(0, -1), OUTSIDE);
        Check.due("above", x.write(0, 5), OUTSIDE);
        Check.due("far below", x.write(0, Integer.MIN_VALUE), OUTSIDE);
        Check.due("far above", x.write(0, Integer.MAX_VALUE), OUTSIDE);
        for (int is = 0; is <= 4; is++) Check.due("is " + is, x.write(3, is), is + 1);
        Check.due("no such debtor", x.write(4, 0), UNKNOWN);
        Check.due("nor below", x.write(-1, 0), UNKNOWN);
        Check.due("unknown and outside", x.write(4, 5), UNKNOWN);
        Check.due("no yard", new Counted().write(0, 0), UNKNOWN);
    }

    private static void firstThatIsOtherwise() {
        Check.sentence("WRONG: the first that is otherwise now; NONE.");
        for (int wrong = 0; wrong < 15; wrong++) {
            Counted x = Check.told(Check.TOWN);
            for (int i = 0; i < 15; i++) x.write(i % 4, i < wrong ? 0 : 1);
            Check.due("the first of more", x.judge(), wrong);
        }
        Counted last = Check.told(Check.TOWN);
        for (int i = 0; i < 14; i++) last.write(i % 4, 0);
        Check.due("none is", last.judge(), NONE);
        last.write(0, 4);
        Check.due("the last alone", last.judge(), 14);
        Check.due("of an empty book", Check.told(Check.TOWN).judge(), NONE);
        Check.due("without a yard", new Counted().judge(), NONE);
        everyKindOfEntry();
    }

    private static void everyKindOfEntry() {
        for (int is = 0; is <= 4; is++) {
            for (int d = 0; d < 5; d++) {
                Counted x = oneOfEach();
                x.write(d, is);
                Check.due("debtor " + d + " is " + is, x.judge(), d == is ? NONE : 0);
            }
        }
    }

    /** DEBTOR k is k: OUT, IN, in the town's GAOL, FREE, in the BAILIE's gaol. */
    private static Counted oneOfEach() {
        Counted x = Check.told("y0 3 1;c100 0;d0 1 0;d0 9 90;d0 10 0;d0 9 90;d0 9 0;");
        x.goIn(1);
        x.goIn(3);
        x.goIn(4);
        x.week(1);
        x.lend(1, 4, 9);
        x.lend(4, 3, 1);
        x.sue(1, 4);
        x.settle(3);
        return x;
    }

    private static void tornUp() {
        Check.sentence("No HATS, THE BOOK is empty: how much both had.");
        Counted x = Check.told(Check.TOWN);
        Check.due("both are empty", x.tear(), 0);
        for (int i = 0; i < 6; i++) x.hat(60, true);
        for (int i = 0; i < 15; i++) x.write(0, 4);
        Check.due("both are full", x.tear(), 21);
        Check.due("no hats", x.told(18), 0);
        Check.due("no entries", x.told(19), 0);
        Check.due("all fits", x.over(0), 61);
        Check.due("nothing is wrong", x.judge(), NONE);
        x.hat(1, true);
        Check.due("hats alone", x.tear(), 1);
        x.write(1, 1);
        Check.due("the book alone", x.tear(), 1);
        Check.due("without a yard", new Counted().tear(), 0);
    }

    // ---- draws

    private static void seeds() {
        Check.sentence("THE SEED becomes v (0 .. 2147483647): what it was. OUTSIDE.");
        Counted x = new Counted();
        Check.due("0 at first", x.seed(2147483647), 0);
        Check.due("below", x.seed(-1), OUTSIDE);
        Check.due("far below", x.seed(Integer.MIN_VALUE), OUTSIDE);
        Check.due("the greatest", x.seed(0), 2147483647);
        Check.due("the least", x.seed(1), 0);
        Check.due("it was 1", x.seed(1), 1);
    }

    private static int draw(int n) {
        seed = (seed * 1103515245L + 12345L) % TWO_TO_THE_31;
        return (int) (seed / 65536 % n);
    }

    private static void drawsLeftOver() {
        Check.sentence("each DRAW it becomes it times 1103515245 and 12345, left over by 2 to the 31");
        int[] seeds = {0, 1, 2, 65535, 65536, 1073741823, 1073741824, 2147483646, 2147483647, 1103515245, 12345};
        Counted x = Check.told("y0 1 6;c1 0;d0 1 0;");
        x.week(1);
        for (int v : seeds) {
            x.seed(v);
            x.drift(1);
            seed = v;
            draw(1);
            if (draw(5) == 3) {
                draw(20);
                draw(1);
            }
            Check.due("behind a week's draws, from " + v, x.seed(0), seed);
        }
    }

    private static void noDebtorsNoDraws() {
        Check.sentence("n WEEKS: ahead of each, if there are DEBTORS, a DRAW of DEBTORS, of 5");
        Counted x = Check.told("y0 1 0;c1 0;");
        x.seed(2147483647);
        Check.due("nobody", x.drift(60), 0);
        Check.due("no draw was made", x.seed(0), 2147483647);
        Check.due("weeks passed", x.told(7), 60);
        Counted one = Check.told("y0 1 0;c1 0;d0 1 0;");
        one.drift(1);
        Check.due("one: draws were made", one.seed(0) != 0 ? 1 : 0, 1);
    }

    private static void drawsByHand() {
        Check.sentence("on 0 he goes IN, on 1 OUT, on 2 he SETTLES, on 3 he LENDS a DRAW of 20, and 1, to another by a DRAW of DEBTORS, "
                + "if unlike, on 4 he SUES the first who OWES him INSIDE, if these can be");
        for (int many = 1; many <= 6; many++) {
            for (int round = 0; round < 60; round++) {
                StringBuilder text = new StringBuilder("y").append(round % 7).append(' ').append(1 + round % 6).append(" 0;c60 1;");
                for (int d = 0; d < many; d++) text.append("d0 ").append(900 - 150 * d).append(' ').append(4 + round % 9).append(';');
                Counted x = Check.told(text.toString());
                Counted by = Check.told(text.toString());
                seed = 35791394L * round;
                x.seed((int) seed);
                for (int w = 0; w < 30; w++) weekByHand(by, many);
                Check.due("arrested", x.drift(30), by.told(14));
                Check.due("the seed", x.seed(0), seed);
                x.keep(0);
                by.keep(0);
                Check.same("by hand, " + many + ", round " + round, Check.lifeOf(x), Check.lifeOf(by));
            }
        }
    }

    private static void weekByHand(Counted by, int many) {
        int d = draw(many);
        switch (draw(5)) {
            case 0: by.goIn(d); break;
            case 1: by.goOut(d); break;
            case 2: by.settle(d); break;
            case 3:
                int much = draw(20) + 1;
                by.lend(d, draw(many), much);
                break;
            default:
                int e = 0;
                while (e < many && by.owes(e, d) <= 0) e++;
                by.sue(d, e);
                break;
        }
        by.week(1);
    }

    // ---- IMAGES

    private static void images() {
        Check.sentence("IMAGES 0, 1 keep all of section 2, THE SEED.");
        Counted x = oneOfEach();
        x.seed(5);
        String first = Check.lifeOf(x).replaceAll(" \\d+$", "");
        Check.due("the first image", x.keep(0), 1);
        x.week(9);
        x.goOut(1);
        x.seed(2147483647);
        String second = Check.lifeOf(x).replaceAll(" \\d+$", "");
        Check.due("the last image", x.keep(1), 1);
        Check.due("there is no third", x.keep(2), UNKNOWN);
        Check.due("nor one below", x.keep(-1), UNKNOWN);
        Check.due("nor one far", x.keep(Integer.MAX_VALUE), UNKNOWN);
        x.week(1);
        x.seed(9);
        Check.due("back to the first", x.goBack(0), 1);
        Check.same("all is as it was", Check.lifeOf(x).replaceAll(" \\d+$", ""), first);
        Check.due("its seed", x.seed(7), 5);
        Check.due("back to the last", x.goBack(1), 1);
        Check.same("all is as it was then", Check.lifeOf(x).replaceAll(" \\d+$", ""), second);
        Check.due("its seed", x.seed(7), 2147483647);
        Check.due("no third to go back to", x.goBack(2), UNKNOWN);
        Check.due("none below", x.goBack(-1), UNKNOWN);
        Check.due("none far", x.goBack(Integer.MIN_VALUE), UNKNOWN);
    }

    private static void imagesAreGone() {
        Check.sentence("What is so becomes IMAGE i (nothing can be undone then): 1. UNKNOWN, NOT: it was not kept.");
        for (int i = 0; i <= 1; i++) {
            Counted x = Check.told(Check.TOWN);
            Check.due("not kept", x.goBack(i), NOT);
            x.keep(i);
            Check.due("the other was not kept", x.goBack(1 - i), NOT);
            Check.due("kept", x.goBack(i), 1);
            Check.due("kept still", x.goBack(i), 1);
            Check.feed(x, "x");
            x.yard();
            Check.due("kept, if the text has a fault", x.goBack(i), 1);
            Check.feed(x, "y0 1 0;");
            x.yard();
            Check.due("gone by a yard", x.goBack(i), NOT);
            x.keep(i);
            x.yard();
            Check.due("gone by an empty text", x.goBack(i), NOT);
        }
    }

    private static void nothingCanBeUndoneThen() {
        Check.sentence("IMAGE i becomes what is so (nothing can be undone then): 1. UNKNOWN.");
        Counted x = Check.told(Check.TOWN);
        x.week(1);
        x.week(1);
        Check.due("a refused keep leaves it", x.keep(2), UNKNOWN);
        Check.due("two", x.told(20), 2);
        x.keep(0);
        Check.due("none behind keep", x.told(20), 0);
        Check.due("not now", x.undo(), NOT);
        x.week(1);
        Check.due("a refused goBack leaves it", x.goBack(1), NOT);
        Check.due("one", x.told(20), 1);
        x.goBack(0);
        Check.due("none behind goBack", x.told(20), 0);
        Check.due("not then", x.undo(), NOT);
        for (int i = 0; i < 16; i++) x.week(1);
        Check.due("all sixteen again", x.told(20), 16);
        x.keep(1);
        Check.due("all are lost", x.told(20), 0);
    }

    private static void theSeedStays() {
        Check.sentence("all of section 2 is as ahead of it; THE SEED stays");
        Counted x = Check.told(Check.TOWN);
        x.seed(5);
        x.drift(9);
        int behind = x.seed(6);
        x.seed(behind);
        x.undo();
        Check.due("undone", x.told(7), 0);
        Check.due("the seed is not", x.seed(4), behind);
        Check.sentence("IMAGES, what could be undone are gone; THE SEED stays");
        Check.feed(x, "y0 1 0;");
        x.yard();
        Check.due("by a yard, too", x.seed(3), 4);
        x.yard();
        Check.due("and by none", x.seed(2), 3);
    }

    // ---- 512 calls

    private static void allCallsThatAreAllowed() {
        Check.sentence("An object is used for at most 512 calls after it has been made");
        Counted x = Check.told("y0 1 0;");
        int made = 0;
        while (x.callsLeft() > 1) {
            x.seed(made);
            made++;
        }
        Check.due("the 512th is answered", x.seed(0), made - 1);
        Check.due("no call is left", x.callsLeft(), 0);
    }
}
