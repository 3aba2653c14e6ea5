/** Promises 1 to 33 in their order: each is quoted whole, and each answer and each change that it names is asked for. */
public final class PromisesTest {
    private static final int NONE = Check.NONE, UNKNOWN = Check.UNKNOWN, OUTSIDE = Check.OUTSIDE, NOT = Check.NOT, FULL = Check.FULL;

    /** 0 and 1 are IN, 2 in the town's GAOL, 3 FREE, 4 in the BAILIE's gaol, 5 OUT, behind one WEEK. */
    private static final String BUSY = "y5 3 1;c50 5;c4 0;d0 100 90;d0 90 90;d0 999 9;d1 25 90;d0 80 9;d0 1 0;p3 4 10;p0 2 7;";

    public static void main(String[] args) {
        newObject();
        feed();
        yard();
        yardWithAFault();
        fault();
        told();
        accepts();
        debtor();
        owes();
        place();
        week();
        goIn();
        goOut();
        settle();
        lend();
        sue();
        drift();
        undo();
        soon();
        cheapest();
        outing();
        composition();
        year();
        chain();
        quiet();
        hat();
        over();
        look();
        write();
        tear();
        judge();
        seed();
        keep();
        goBack();
        Check.end();
    }

    private static Counted busy() {
        Counted x = Check.told(BUSY);
        x.goIn(0);
        x.goIn(1);
        x.goIn(4);
        x.week(1);
        x.settle(3);
        x.lend(0, 4, 40);
        x.lend(4, 1, 20);
        x.sue(0, 4);
        return x;
    }

    // ---- the yard

    private static void newObject() {
        Check.sentence("`PalaceYard()`: No YARD.");
        Counted x = new Counted();
        for (int what = 0; what <= 20; what++) Check.due("told " + what, x.told(what), 0);
        Check.due("no weeks pass", x.week(1), NOT);
        Check.due("nor by draws", x.drift(1), NOT);
        Check.due("no creditor", x.accepts(0, 0), UNKNOWN);
        Check.due("no debtor", x.debtor(0, 0), UNKNOWN);
        Check.due("no place", x.place(0, 0), UNKNOWN);
        Check.due("no fault", x.fault(), NONE);
    }

    private static void feed() {
        Check.sentence("`int feed(int letter)`: One letter (a number 0 .. 255) comes behind THE TEXT: how many it has. OUTSIDE, FULL (240).");
        Counted x = new Counted();
        String text = "y1 2 3;";
        for (int i = 0; i < text.length(); i++) Check.due("how many", x.feed(text.charAt(i)), i + 1);
        Check.due("outside", x.feed(256), OUTSIDE);
        Check.due("outside below", x.feed(-1), OUTSIDE);
        x.yard();
        for (int what = 0; what <= 2; what++) Check.due("behind the text, in order", x.told(what), what + 1);
        for (int i = 0; i < 240; i++) x.feed(255);
        Check.due("full", x.feed(255), FULL);
        Check.due("full of letters", x.told(6), 240);
    }

    private static void yard() {
        Check.sentence("`int yard()`: THE TEXT (it is empty then, with a FAULT, too) becomes THE YARD (WEEK 0, all OUT, nothing OWED INSIDE; "
                + "no HATS, no BOOK; IMAGES, what could be undone are gone; THE SEED stays): how many DEBTORS;");
        Counted x = busy();
        x.keep(0);
        x.keep(1);
        x.goOut(0);
        x.hat(9, true);
        x.write(0, 1);
        x.seed(55);
        Check.feed(x, BUSY);
        Check.due("how many debtors", x.yard(), 6);
        Check.due("the text is empty", x.told(6), 0);
        Check.due("week 0", x.told(7), 0);
        Check.due("all out", x.told(9), 63);
        for (int d = 0; d < 6; d++) {
            Check.due("is out", x.debtor(d, 3), 0);
            Check.due("has no cash", x.debtor(d, 4), 10000);
            for (int e = 0; e < 6; e++) if (e != d) Check.due("nothing is owed", x.owes(d, e), 0);
        }
        Check.due("nobody was arrested", x.told(14), 0);
        Check.due("no lodging was paid", x.told(15), 0);
        Check.due("no hats", x.told(18), 0);
        Check.due("all fits", x.over(0), 61);
        Check.due("no book", x.told(19), 0);
        Check.due("nothing is wrong", x.judge(), NONE);
        Check.due("no image", x.goBack(0), NOT);
        Check.due("nor the other one", x.goBack(1), NOT);
        Check.due("nothing can be undone", x.told(20), 0);
        Check.due("not undone", x.undo(), NOT);
        Check.due("the seed stays", x.seed(0), 55);
        for (int many = 0; many <= 6; many++) {
            Counted some = new Counted();
            Check.feed(some, "y0 1 0;c1 0;" + "d0 1 0;".repeat(many));
            Check.due("how many debtors", some.yard(), many);
        }
    }

    private static void yardWithAFault() {
        Check.sentence("how many DEBTORS; -10 less the number of its FAULT (all else is as it was).");
        String[] faulty = {"z", "y100 1 0;", "y0 1 0;y"};
        for (int k = 0; k < 3; k++) {
            Counted x = busy();
            x.keep(1);
            x.goOut(0);
            x.hat(9, true);
            x.write(0, 1);
            x.seed(55);
            String before = Check.allOf(x);
            Check.feed(x, faulty[k]);
            Check.due("less the fault's number", x.yard(), -11 - k);
            Check.same("all else is as it was, the text is empty", Check.allOf(x), before);
            Check.due("the seed, too", x.seed(0), 55);
            Check.due("what can be undone, too", x.undo(), 0);
            Check.due("undone", x.debtor(0, 3), 1);
            Check.due("the image, too", x.goBack(1), 1);
        }
    }

    private static void fault() {
        Check.sentence("`int fault()`: The letter of the FAULT of the latest yard(); NONE.");
        Counted x = new Counted();
        Check.due("no yard() yet", x.fault(), NONE);
        Check.feed(x, "y0 1 0;z");
        Check.due("none while the text is fed", x.fault(), NONE);
        x.yard();
        Check.due("the letter", x.fault(), 7);
        Check.feed(x, "y0 7 0;");
        Check.due("of the latest yard() still", x.fault(), 7);
        x.yard();
        Check.due("of the latest one", x.fault(), 3);
        Check.feed(x, "y0 1 0;");
        x.yard();
        Check.due("none", x.fault(), NONE);
        Check.feed(x, "y");
        x.yard();
        Check.due("at the end", x.fault(), 1);
        x.yard();
        Check.due("none of an empty one", x.fault(), NONE);
    }

    private static void told() {
        Check.sentence("`int told(int what)`: 0 L, 1 R, 2 B, 3 CREDITORS, 4 DEBTORS, 5 PLACES, 6 letters of THE TEXT, 7 WEEKS, 8 who is IN, 9 OUT, "
                + "10 FREE, 11 in any gaol, 12 NEXT, 13 SAFE (SETS), 14 how many were ARRESTED, 15 lodging paid, 16 PRICE, 17 CLEARED, 18 HATS, "
                + "19 entries of THE BOOK, 20 how many can be undone. OUTSIDE.");
        Counted x = busy();
        Check.feed(x, "y 1");
        x.hat(9, true);
        x.hat(8, true);
        for (int i = 0; i < 4; i++) x.write(0, 1);
        int[] due = {5, 3, 1, 2, 6, 2, 3, 1, 3, 32, 8, 20, 32, 31, 1, 15, 0, 16, 2, 4, 8};
        for (int what = 0; what <= 20; what++) Check.due("told " + what, x.told(what), due[what]);
        Check.due("below", x.told(-1), OUTSIDE);
        Check.due("above", x.told(21), OUTSIDE);
        Counted dear = Check.told("y1 1 0;c1 0;d0 1 7;d0 1 9;d0 1 8;");
        Check.due("a price", dear.told(16), 8);
    }

    private static void accepts() {
        Check.sentence("`int accepts(int c, int n)`: What a CREDITOR ACCEPTS behind n WEEKS (0 .. 9999) from the first. UNKNOWN, OUTSIDE.");
        Counted x = Check.told("y0 1 0;c60 7;c3 1;");
        int[] due = {60, 53, 46, 39, 32, 25, 18, 11, 5, 5};
        for (int n = 0; n < due.length; n++) Check.due("behind " + n, x.accepts(0, n), due[n]);
        x.week(4);
        for (int n = 0; n < due.length; n++) Check.due("from the first, not from now: " + n, x.accepts(0, n), due[n]);
        Check.due("the last", x.accepts(0, 9999), 5);
        Check.due("of little", x.accepts(1, 9999), 3);
        Check.due("behind the last", x.accepts(0, 10000), OUTSIDE);
        Check.due("below", x.accepts(0, -1), OUTSIDE);
        Check.due("unknown", x.accepts(2, 0), UNKNOWN);
        Check.due("unknown below", x.accepts(-1, 0), UNKNOWN);
    }

    private static void debtor() {
        Check.sentence("`int debtor(int d, int what)`: Of a DEBTOR: what = 0 the CREDITOR, 1 S, 2 H, 3 what he is (0 .. 4), 4 CASH, and 10000, "
                + "5 what it would cost to SETTLE now, 6 NET. UNKNOWN, OUTSIDE.");
        Counted x = busy();
        int[][] due = {
            {0, 100, 90, 1, 10069, 45, 10016}, {0, 90, 90, 1, 10105, 41, 9980}, {0, 999, 9, 2, 10009, 450, 10000},
            {1, 25, 90, 3, 10089, 1, 10000}, {0, 80, 9, 4, 10000, 36, 10004}, {0, 1, 0, 0, 10000, 1, 10000}};
        for (int d = 0; d < 6; d++) {
            for (int what = 0; what <= 6; what++) Check.due("debtor " + d + ", " + what, x.debtor(d, what), due[d][what]);
        }
        Check.due("outside", x.debtor(0, 7), OUTSIDE);
        Check.due("outside below", x.debtor(0, -1), OUTSIDE);
        Check.due("unknown", x.debtor(6, 0), UNKNOWN);
        Check.due("unknown below", x.debtor(-1, 0), UNKNOWN);
    }

    private static void owes() {
        Check.sentence("`int owes(int d, int e)`: What one OWES another one INSIDE (0: nothing, or the other way about). UNKNOWN.");
        Counted x = busy();
        for (int d = 0; d < 6; d++) {
            for (int e = 0; e < 6; e++) {
                int due = d == e ? UNKNOWN : d == 4 && e == 0 ? 16 : d == 1 && e == 4 ? 20 : 0;
                Check.due(d + " owes " + e, x.owes(d, e), due);
            }
            Check.due("unknown", x.owes(d, 6), UNKNOWN);
            Check.due("unknown below", x.owes(-1, d), UNKNOWN);
        }
    }

    private static void place() {
        Check.sentence("`int place(int p, int what)`: Of a PLACE: what = 0 X, 1 Y, 2 V. UNKNOWN, OUTSIDE.");
        Counted x = Check.told(BUSY);
        int[][] due = {{3, 4, 10}, {0, 2, 7}};
        for (int p = 0; p < 2; p++) {
            for (int what = 0; what <= 2; what++) Check.due("place " + p + ", " + what, x.place(p, what), due[p][what]);
        }
        Check.due("outside", x.place(0, 3), OUTSIDE);
        Check.due("outside below", x.place(0, -1), OUTSIDE);
        Check.due("unknown", x.place(2, 0), UNKNOWN);
        Check.due("unknown below", x.place(-1, 0), UNKNOWN);
    }

    // ---- what is done

    private static void week() {
        Check.sentence("`int week(int n)`: n WEEKS (1 .. 60): WEEKS. OUTSIDE, NOT: no YARD; FULL: WEEKS are above 9000.");
        Counted many = busy();
        Counted one = busy();
        Check.due("weeks", many.week(7), 8);
        for (int w = 2; w <= 8; w++) Check.due("week by week", one.week(1), w);
        many.keep(0);
        one.keep(0);
        Check.same("n weeks are n times one", Check.lifeOf(many), Check.lifeOf(one));
        Check.due("outside", many.week(61), OUTSIDE);
        Check.due("outside below", many.week(0), OUTSIDE);
        Check.due("no yard", new Counted().week(1), NOT);
        Counted late = Check.told("y0 1 0;");
        for (int i = 0; i < 150; i++) late.week(60);
        Check.due("9000 are not above", late.week(1), 9001);
        Check.due("full", late.week(1), FULL);
    }

    private static void goIn() {
        Check.sentence("`int goIn(int d)`: IN: who is IN. UNKNOWN, NOT: he is not OUT, no ROOM.");
        Counted x = busy();
        for (int d = 0; d < 5; d++) Check.due("he is not out: " + d, x.goIn(d), NOT);
        Check.due("who is in", x.goIn(5), 1 + 2 + 32);
        Check.due("he is", x.debtor(5, 3), 1);
        Counted one = Check.told("y0 1 0;c1 0;d0 1 0;d0 1 0;");
        Check.due("the one room", one.goIn(1), 2);
        Check.due("no room", one.goIn(0), NOT);
        Check.due("unknown", one.goIn(2), UNKNOWN);
        Check.due("unknown below", one.goIn(-1), UNKNOWN);
    }

    private static void goOut() {
        Check.sentence("`int goOut(int d)`: OUT: who is OUT. UNKNOWN, NOT: he is not IN.");
        Counted x = busy();
        for (int d = 2; d < 6; d++) Check.due("he is not in: " + d, x.goOut(d), NOT);
        Check.due("who is out", x.goOut(1), 2 + 32);
        Check.due("he is", x.debtor(1, 3), 0);
        Check.due("both", x.goOut(0), 1 + 2 + 32);
        Check.due("unknown", x.goOut(6), UNKNOWN);
        Check.due("unknown below", x.goOut(-1), UNKNOWN);
    }

    private static void settle() {
        Check.sentence("`int settle(int d)`: SETTLES: what he paid. UNKNOWN, NOT: he is neither IN nor OUT, has less CASH.");
        Counted x = busy();
        for (int d = 2; d < 5; d++) Check.due("neither in nor out: " + d, x.settle(d), NOT);
        Check.due("out, less cash", x.settle(5), NOT);
        Check.due("in, what he paid", x.settle(0), 45);
        Check.due("free", x.debtor(0, 3), 3);
        Check.due("paid", x.debtor(0, 4), 10069 - 45);
        x.goOut(1);
        Check.due("out, what he paid", x.settle(1), 41);
        Check.due("both", x.told(10), 1 + 2 + 8);
        Check.due("unknown", x.settle(6), UNKNOWN);
        Check.due("unknown below", x.settle(-1), UNKNOWN);
    }

    private static void lend() {
        Check.sentence("`int lend(int d, int e, int much)`: LENDS (1 .. 999): what the other one OWES him INSIDE (0: nothing). "
                + "UNKNOWN, OUTSIDE, NOT: not both are IN, he has less CASH; FULL: it would be above 9999.");
        Counted x = busy();
        Check.due("what is owed", x.lend(0, 1, 30), 30);
        Check.due("nothing", x.lend(1, 0, 30), 0);
        Check.due("the other way about", x.lend(1, 0, 5), 5);
        Check.due("all he has", x.lend(1, 0, 100), 105);
        Check.due("less cash", x.lend(1, 0, 1), NOT);
        for (int d = 2; d < 6; d++) Check.due("is not in: " + d, x.lend(0, d, 1), NOT);
        Check.due("outside", x.lend(0, 1, 1000), OUTSIDE);
        Check.due("outside below", x.lend(0, 1, 0), OUTSIDE);
        Check.due("unknown", x.lend(0, 6, 1), UNKNOWN);
        Check.due("unknown below", x.lend(-1, 0, 1), UNKNOWN);
        Check.due("one twice", x.lend(0, 0, 1), UNKNOWN);
        Counted rich = Check.told("y0 2 0;c100 0;d0 1 99;d0 1 99;");
        rich.goIn(0);
        rich.goIn(1);
        for (int i = 0; i < 2; i++) rich.week(60);
        for (int i = 0; i < 10; i++) rich.lend(0, 1, 999);
        rich.week(1);
        Check.due("above 9999", rich.lend(0, 1, 10), FULL);
        Check.due("9999", rich.lend(0, 1, 9), 9999);
    }

    private static void sue() {
        Check.sentence("`int sue(int d, int e)`: SUES another one: what that one paid. UNKNOWN, NOT: that one OWES him nothing INSIDE, is not IN.");
        Counted x = busy();
        Check.due("owes him nothing", x.sue(0, 1), NOT);
        Check.due("is not in", x.sue(0, 4), NOT);
        Check.due("what that one paid", x.sue(4, 1), 20);
        Check.due("he has less", x.debtor(1, 4), 10085);
        Check.due("the other one has more", x.debtor(4, 4), 10020);
        Check.due("owes no more", x.owes(1, 4), 0);
        Check.due("unknown", x.sue(0, 6), UNKNOWN);
        Check.due("unknown below", x.sue(-1, 1), UNKNOWN);
        Check.due("one twice", x.sue(1, 1), UNKNOWN);
    }

    private static void drift() {
        Check.sentence("`int drift(int n)`: n WEEKS (1 .. 60) BY DRAWS: how many were ARRESTED. OUTSIDE, NOT: no YARD; FULL: WEEKS are above 9000.");
        Counted x = busy();
        x.seed(1);
        int arrested = x.drift(60);
        int gaoled = 0;
        for (int d = 0; d < 6; d++) if (x.debtor(d, 3) == 2) gaoled++;
        Check.due("how many: all who are in the town's gaol", arrested, gaoled);
        Check.due("more than ahead of it", gaoled > 1 ? 1 : 0, 1);
        Check.due("weeks", x.told(7), 61);
        Check.due("outside", x.drift(61), OUTSIDE);
        Check.due("outside below", x.drift(0), OUTSIDE);
        Check.due("no yard", new Counted().drift(1), NOT);
        Counted late = Check.told("y0 1 0;");
        for (int i = 0; i < 150; i++) late.drift(60);
        Check.due("9000 are not above", late.drift(1), 0);
        Check.due("full", late.drift(1), FULL);
    }

    private static void undo() {
        Check.sentence("`int undo()`: The latest is undone: how many more can be. NOT: none.");
        Counted x = busy();
        for (int left = 7; left >= 0; left--) {
            Check.due("how many more", x.undo(), left);
            Check.due("it is told", x.told(20), left);
            if (left == 7) Check.due("the suit is undone", x.debtor(4, 3), 1);
            if (left == 6) Check.due("the loan is undone", x.owes(1, 4), 0);
            if (left == 4) Check.due("what was settled is undone", x.debtor(3, 3), 0);
            if (left == 3) Check.due("the week is undone", x.told(7), 0);
        }
        Check.due("none", x.undo(), NOT);
        Check.same("all is as at first", Check.allOf(x), Check.allOf(Check.told(BUSY)));
    }

    // ---- tried

    private static void soon() {
        Check.sentence("`int soon(int d)`: SOON; NONE. UNKNOWN, NOT: he is neither IN nor OUT.");
        Counted x = busy();
        Check.due("now", x.soon(0), 0);
        Check.due("never", x.soon(5), NONE);
        for (int d = 2; d < 5; d++) Check.due("neither in nor out: " + d, x.soon(d), NOT);
        Check.due("unknown", x.soon(6), UNKNOWN);
        Check.due("unknown below", x.soon(-1), UNKNOWN);
        Counted waits = Check.told("y5 1 0;c50 5;d0 100 9;");
        Check.due("out: 36 of 40, 30", waits.soon(0), 4);
        waits.goIn(0);
        Check.due("in: 20 of 25, 24 of 20", waits.soon(0), 6);
    }

    private static void cheapest() {
        Check.sentence("`int cheapest(int d, int what)`: CHEAPEST: what = 0 how many WEEKS, 1 how much; NONE. UNKNOWN, OUTSIDE, NOT: he is neither "
                + "IN nor OUT.");
        Counted x = busy();
        Check.due("each week saves as much: now", x.cheapest(0, 0), 0);
        Check.due("how much now", x.cheapest(0, 1), 45);
        x.goOut(0);
        Check.due("out it saves till the last", x.cheapest(0, 0), 8);
        Check.due("how much then", x.cheapest(0, 1), 5);
        Check.due("never", x.cheapest(5, 0), NONE);
        Check.due("never, how much", x.cheapest(5, 1), NONE);
        for (int d = 2; d < 5; d++) Check.due("neither in nor out: " + d, x.cheapest(d, 0), NOT);
        Check.due("outside", x.cheapest(0, 2), OUTSIDE);
        Check.due("outside below", x.cheapest(0, -1), OUTSIDE);
        Check.due("unknown", x.cheapest(6, 0), UNKNOWN);
        Check.due("unknown below", x.cheapest(-1, 0), UNKNOWN);
    }

    private static void outing() {
        Check.sentence("`int outing(int t, int what)`: OUTING: what = 0 worth, 1 steps, 2 the PLACES. OUTSIDE.");
        Counted x = Check.told(BUSY);
        int[][] due = {{0, 0, 0, 0}, {3, 0, 0, 0}, {4, 7, 4, 2}, {13, 7, 4, 2}, {14, 17, 14, 12}, {99, 17, 14, 12}};
        for (int[] row : due) {
            for (int what = 0; what <= 2; what++) Check.due("in " + row[0] + ", " + what, x.outing(row[0], what), row[what + 1]);
        }
        Check.due("outside", x.outing(100, 0), OUTSIDE);
        Check.due("outside below", x.outing(-1, 0), OUTSIDE);
        Check.due("what outside", x.outing(0, 3), OUTSIDE);
        Check.due("what outside below", x.outing(0, -1), OUTSIDE);
    }

    private static void composition() {
        Check.sentence("`int composition(int q, int what)`: COMPOSITION: what = 0 CREDITORS (a SET of CREDITORS), 1 whether it binds. OUTSIDE.");
        Counted x = busy();
        int[][] due = {{0, 0, 0}, {3, 0, 0}, {4, 2, 0}, {44, 2, 0}, {45, 3, 1}, {100, 3, 1}};
        for (int[] row : due) {
            Check.due("creditors at " + row[0], x.composition(row[0], 0), row[1]);
            Check.due("whether it binds at " + row[0], x.composition(row[0], 1), row[2]);
        }
        Check.due("outside", x.composition(101, 0), OUTSIDE);
        Check.due("outside below", x.composition(-1, 0), OUTSIDE);
        Check.due("what outside", x.composition(0, 2), OUTSIDE);
        Check.due("what outside below", x.composition(0, -1), OUTSIDE);
    }

    private static void year() {
        Check.sentence("`int year(int d, int n)`: YEAR. UNKNOWN, OUTSIDE.");
        Counted x = busy();
        int[] cash = {69, 105, 9, 89, 0, 0};
        int[] more = {85, 85, 4, 85, 4, -5};
        for (int d = 0; d < 6; d++) {
            for (int n = 0; n <= 60; n += 20) Check.due("debtor " + d + " behind " + n, x.year(d, n), 10000 + cash[d] + n * more[d]);
        }
        Check.due("outside", x.year(0, 61), OUTSIDE);
        Check.due("outside below", x.year(0, -1), OUTSIDE);
        Check.due("unknown", x.year(6, 0), UNKNOWN);
        Check.due("unknown below", x.year(-1, 0), UNKNOWN);
    }

    private static void chain() {
        Check.sentence("`int chain(int d, int what)`: CHAIN: what = 0 how many, 1 the last. UNKNOWN, OUTSIDE.");
        Counted x = busy();
        int[] many = {1, 3, 1, 1, 2, 1};
        int[] last = {0, 0, 2, 3, 0, 5};
        for (int d = 0; d < 6; d++) {
            Check.due("how many from " + d, x.chain(d, 0), many[d]);
            Check.due("the last from " + d, x.chain(d, 1), last[d]);
        }
        Check.due("outside", x.chain(0, 2), OUTSIDE);
        Check.due("outside below", x.chain(0, -1), OUTSIDE);
        Check.due("unknown", x.chain(6, 0), UNKNOWN);
        Check.due("unknown below", x.chain(-1, 0), UNKNOWN);
    }

    private static void quiet() {
        Check.sentence("`int quiet(int n, int q)`: QUIET. OUTSIDE.");
        Counted x = new Counted();
        int[][] due = {{0, 37, 1000000000}, {1, 37, 630000000}, {2, 37, 396900000}, {3, 37, 250047000}, {4, 37, 157529610}, {5, 37, 99243654}};
        for (int[] row : due) Check.due("in " + row[0], x.quiet(row[0], row[1]), row[2]);
        Check.due("outside", x.quiet(61, 0), OUTSIDE);
        Check.due("outside below", x.quiet(-1, 0), OUTSIDE);
        Check.due("odds outside", x.quiet(0, 101), OUTSIDE);
        Check.due("odds outside below", x.quiet(0, -1), OUTSIDE);
    }

    // ---- hats

    private static void hat() {
        Check.sentence("`int hat(int d, boolean over)`: HATS: how many. OUTSIDE, FULL (6).");
        Counted x = new Counted();
        int[] lines = {10, 50, 5, 55, 20, 40};
        int[] fits = {50, 40, 40, 40, 30, 20};
        for (int i = 0; i < 6; i++) {
            Check.due("how many", x.hat(lines[i], i % 2 == 0), i + 1);
            Check.due("it counts", x.over(0), fits[i]);
        }
        Check.due("full", x.hat(0, true), FULL);
        Check.due("outside", x.hat(61, true), OUTSIDE);
        Check.due("outside below", x.hat(-1, true), OUTSIDE);
        Check.due("six", x.told(18), 6);
    }

    private static void over() {
        Check.sentence("`int over(int what)`: OVER: what = 0 how many, 1 the least, 2 the greatest; NONE. OUTSIDE.");
        Counted x = new Counted();
        x.hat(17, true);
        x.hat(42, false);
        Check.due("how many", x.over(0), 25);
        Check.due("the least", x.over(1), 18);
        Check.due("the greatest", x.over(2), 42);
        Check.due("outside", x.over(3), OUTSIDE);
        Check.due("outside below", x.over(-1), OUTSIDE);
        x.hat(42, true);
        Check.due("none: how many", x.over(0), 0);
        Check.due("none: the least", x.over(1), NONE);
        Check.due("none: the greatest", x.over(2), NONE);
    }

    private static void look() {
        Check.sentence("`int look()`: LOOK; NONE.");
        Counted x = new Counted();
        int[] due = {29, 44, 52, 56, 58, 59, NONE};
        for (int i = 0; i < 6; i++) {
            Check.due("where to look", x.look(), due[i]);
            Check.due("nothing changes by it", x.told(18), i);
            x.hat(due[i], true);
        }
        Check.due("one is left", x.over(0), 1);
        Check.due("none", x.look(), due[6]);
    }

    private static void write() {
        Check.sentence("`int write(int d, int is)`: An entry behind THE BOOK (0 .. 4): how many. UNKNOWN, OUTSIDE, FULL (15).");
        Counted x = busy();
        int[] is = {1, 1, 2, 3, 4, 0};
        for (int i = 0; i < 14; i++) Check.due("how many", x.write(i % 6, is[i % 6]), i + 1);
        Check.due("all is so", x.judge(), NONE);
        Check.due("the last one", x.write(5, 4), 15);
        Check.due("it is behind the others", x.judge(), 14);
        Check.due("full", x.write(0, 1), FULL);
        Check.due("outside", x.write(0, 5), OUTSIDE);
        Check.due("outside below", x.write(0, -1), OUTSIDE);
        Check.due("unknown", x.write(6, 0), UNKNOWN);
        Check.due("unknown below", x.write(-1, 0), UNKNOWN);
    }

    private static void tear() {
        Check.sentence("`int tear()`: No HATS, THE BOOK is empty: how much both had.");
        Counted x = busy();
        String before = Check.allOf(x);
        x.hat(30, true);
        x.hat(20, false);
        x.write(0, 0);
        x.write(1, 0);
        x.write(2, 0);
        Check.due("how much both had", x.tear(), 5);
        Check.same("no hats, no book, all else is as it was", Check.allOf(x), before);
        Check.due("nothing more", x.tear(), 0);
    }

    private static void judge() {
        Check.sentence("`int judge()`: WRONG; NONE.");
        Counted x = busy();
        Check.due("of no entries", x.judge(), NONE);
        x.write(0, 1);
        x.write(1, 1);
        Check.due("none is wrong", x.judge(), NONE);
        x.goOut(1);
        Check.due("is otherwise now", x.judge(), 1);
        x.goOut(0);
        Check.due("the first", x.judge(), 0);
        x.undo();
        x.undo();
        Check.due("none again", x.judge(), NONE);
    }

    // ---- draws, images

    private static void seed() {
        Check.sentence("`int seed(int v)`: THE SEED becomes v (0 .. 2147483647): what it was. OUTSIDE.");
        Counted x = busy();
        Check.due("0 at first", x.seed(2147483647), 0);
        Check.due("the greatest", x.seed(12), 2147483647);
        Check.due("outside", x.seed(-1), OUTSIDE);
        Check.due("it stays", x.seed(12), 12);
        x.keep(0);
        x.drift(5);
        String first = Check.lifeOf(x);
        x.goBack(0);
        x.seed(12);
        x.drift(5);
        Check.same("by like seeds like draws", Check.lifeOf(x), first);
    }

    private static void keep() {
        Check.sentence("`int keep(int i)`: IMAGE i becomes what is so (nothing can be undone then): 1. UNKNOWN.");
        for (int i = 0; i <= 1; i++) {
            Counted x = busy();
            Check.due("1", x.keep(i), 1);
            Check.due("nothing can be undone", x.told(20), 0);
            String then = Check.lifeOf(x);
            x.week(2);
            x.goBack(i);
            Check.same("what was so", Check.lifeOf(x), then);
            x.week(1);
            Check.due("once more", x.keep(i), 1);
            x.week(1);
            x.goBack(i);
            Check.due("it became another", x.told(7), 2);
            Check.due("unknown", x.keep(2), UNKNOWN);
            Check.due("unknown below", x.keep(-1), UNKNOWN);
        }
    }

    private static void goBack() {
        Check.sentence("`int goBack(int i)`: What is so becomes IMAGE i (nothing can be undone then): 1. UNKNOWN, NOT: it was not kept.");
        for (int i = 0; i <= 1; i++) {
            Counted x = busy();
            Check.due("it was not kept", x.goBack(i), NOT);
            x.seed(8);
            x.keep(i);
            String then = Check.lifeOf(x);
            x.drift(9);
            x.goIn(5);
            Check.due("1", x.goBack(i), 1);
            Check.same("what is so", Check.lifeOf(x), then);
            Check.due("the seed, too", x.seed(0), 8);
            Check.due("nothing can be undone", x.undo(), NOT);
            Check.due("the other one was not kept", x.goBack(1 - i), NOT);
            Check.due("unknown", x.goBack(2), UNKNOWN);
            Check.due("unknown below", x.goBack(-1), UNKNOWN);
        }
    }
}
