/** Section 3 and promises 18 to 24: each sentence of the document that names a boundary of what is tried. */
public final class TriedBoundsTest {
    private static final int NONE = Check.NONE, UNKNOWN = Check.UNKNOWN, OUTSIDE = Check.OUTSIDE, NOT = Check.NOT;

    public static void main(String[] args) {
        soonAtTheLast();
        soonWhereHeIs();
        cheapestAtTheLast();
        cheapestOfLikeOnes();
        cheapestWhat();
        outingSteps();
        outingBeyondTheMost();
        outingWorth();
        outingOfLikeOnes();
        outingOfMany();
        compositionAt();
        compositionBinds();
        yearWeeks();
        yearBounded();
        chainsOfAll();
        chainsOfLikeOnes();
        chainWhat();
        quietWeeks();
        Check.end();
    }

    private static Counted allIn(String text) {
        Counted x = Check.told(text);
        int debtors = x.told(4);
        for (int d = 0; d < debtors; d++) x.goIn(d);
        return x;
    }

    // ---- SOON

    private static void soonAtTheLast() {
        Check.sentence("SOON: behind how many WEEKS (0 .. 200)");
        Counted out = Check.told("y9 6 6;c100 0;d0 1 1;d0 199 1;d0 200 1;d0 201 1;d0 200 0;d0 999 5;");
        int[] due = {1, 199, 200, NONE, NONE, 200};
        for (int d = 0; d < 6; d++) Check.due("out, debtor " + d, out.soon(d), due[d]);
        Counted in = allIn("y9 6 6;c100 0;d0 1 10;d0 199 10;d0 200 10;d0 201 10;d0 1 9;d0 999 14;");
        int[] dueIn = {1, 199, 200, NONE, NONE, 200};
        for (int d = 0; d < 6; d++) Check.due("in, debtor " + d, in.soon(d), dueIn[d]);
        Counted now = Check.told("y0 1 0;c100 0;d0 10 10;d0 11 10;");
        now.week(1);
        Check.due("now: just as much", now.soon(0), 0);
        Check.due("1 less", now.soon(1), 1);
        Counted late = Check.told("y0 1 0;c100 0;d0 201 1;");
        late.week(1);
        Check.due("from now", late.soon(0), 200);
    }

    private static void soonWhereHeIs() {
        Check.sentence("a DEBTOR who stays where he is now (IN or OUT, as if nobody were ARRESTED, put OUT) can SETTLE first; NONE");
        Counted x = Check.told("y40 1 6;c100 10;d0 100 30;");
        Check.due("as if nobody were arrested", x.soon(0), 3);
        x.goIn(0);
        Check.due("in he never can", x.soon(0), NONE);
        Counted waits = Check.told("y40 1 0;c100 10;d0 100 30;");
        waits.week(2);
        Check.due("out he can", waits.soon(0), 1);
        waits.goIn(0);
        Check.due("in, with less and less", waits.soon(0), NONE);
        Counted less = Check.told("y10 1 0;c100 20;d0 100 0;d0 1 60;");
        less.week(1);
        Check.due("nothing comes in", less.soon(0), NONE);
        Counted fewer = Check.told("y10 2 0;c100 20;d0 999 9;d0 999 99;");
        fewer.goIn(0);
        fewer.goIn(1);
        fewer.week(1);
        Check.due("below 0 he is out", fewer.debtor(0, 3), 0);
        fewer.goIn(0);
        Check.due("in below 0: as if he were not put out", fewer.soon(0), NONE);
        fewer.lend(1, 0, 60);
        Check.due("what is accepted becomes less than he has", fewer.soon(0), 4);
    }

    // ---- CHEAPEST

    private static void cheapestAtTheLast() {
        Check.sentence("CHEAPEST: of 0 .. 60 WEEKS, if he can SETTLE then");
        Counted x = Check.told("y9 6 6;c100 0;c100 1;d0 60 1;d0 61 1;d0 59 1;d0 1 0;d1 100 99;d1 100 0;");
        int[] weeks = {60, NONE, 59, NONE, 60, NONE};
        int[] much = {60, NONE, 59, NONE, 40, NONE};
        for (int d = 0; d < 6; d++) {
            Check.due("weeks of debtor " + d, x.cheapest(d, 0), weeks[d]);
            Check.due("how much of debtor " + d, x.cheapest(d, 1), much[d]);
        }
        Counted now = Check.told("y0 1 0;c100 0;d0 10 10;d0 11 10;d0 1 0;");
        now.week(1);
        Check.due("now", now.cheapest(0, 0), 0);
        Check.due("how much now", now.cheapest(0, 1), 10);
        Check.due("a week later", now.cheapest(1, 0), 1);
        Counted in = allIn("y9 2 0;c100 0;d0 60 10;d0 61 10;");
        Check.due("in, the last week", in.cheapest(0, 0), 60);
        Check.due("with its lodging", in.cheapest(0, 1), 60 + 540);
        Check.due("in, too late", in.cheapest(1, 0), NONE);
        Check.due("in, too late, how much", in.cheapest(1, 1), NONE);
    }

    private static void cheapestOfLikeOnes() {
        Check.sentence("that by which lodging (for WEEKS IN) and what he pays are least together; of like ones the least");
        Counted like = Check.told("y10 2 0;c100 10;d0 100 99;d0 110 99;d0 90 99;");
        like.goIn(0);
        like.goIn(1);
        Check.due("each week saves what it costs: the first he can", like.cheapest(0, 0), 2);
        Check.due("together", like.cheapest(0, 1), 100);
        Check.due("each week saves more", like.cheapest(1, 0), 9);
        Check.due("together, less", like.cheapest(1, 1), 101);
        like.goOut(0);
        like.goIn(2);
        Check.due("each week saves less", like.cheapest(2, 0), 1);
        Check.due("together, more", like.cheapest(2, 1), 91);
        Check.due("out no lodging is paid", like.cheapest(0, 0), 10);
        Check.due("out: what he pays alone", like.cheapest(0, 1), 5);
    }

    private static void cheapestWhat() {
        Check.sentence("CHEAPEST: what = 0 how many WEEKS, 1 how much; NONE. UNKNOWN, OUTSIDE, NOT: he is neither IN nor OUT.");
        Counted x = Check.told("y0 1 1;c1 0;d0 1 1;d0 2 1;");
        Check.due("above", x.cheapest(0, 2), OUTSIDE);
        Check.due("below", x.cheapest(0, -1), OUTSIDE);
        x.week(1);
        Check.due("in gaol", x.cheapest(1, 0), NOT);
        Check.due("in gaol, how much", x.cheapest(1, 1), NOT);
        Check.due("in gaol and outside", x.cheapest(1, 2), OUTSIDE);
        Check.due("unknown and outside", x.cheapest(2, 2), UNKNOWN);
        Check.due("unknown", x.cheapest(2, 0), UNKNOWN);
    }

    // ---- OUTING

    private static void outing(Counted x, int t, int worth, int steps, int places) {
        Check.due("worth in " + t, x.outing(t, 0), worth);
        Check.due("steps in " + t, x.outing(t, 1), steps);
        Check.due("places in " + t, x.outing(t, 2), places);
    }

    private static void outingSteps() {
        Check.sentence("OUTING of t (0 .. 99) steps: from 0, 0 to PLACES, each once at most");
        Counted x = Check.told("y0 1 0;p0 0 3;p3 4 10;p20 20 1;");
        outing(x, 0, 3, 0, 1);
        outing(x, 13, 3, 0, 1);
        outing(x, 14, 13, 14, 12);
        outing(x, 79, 13, 14, 12);
        outing(x, 80, 14, 80, 123);
        outing(x, 99, 14, 80, 123);
        Check.due("above", x.outing(100, 0), OUTSIDE);
        Check.due("below", x.outing(-1, 0), OUTSIDE);
        Check.due("far above", x.outing(Integer.MAX_VALUE, 0), OUTSIDE);
        Check.due("far below", x.outing(Integer.MIN_VALUE, 0), OUTSIDE);
        Check.due("what above", x.outing(0, 3), OUTSIDE);
        Check.due("what below", x.outing(0, -1), OUTSIDE);
        Check.due("both", x.outing(100, 3), OUTSIDE);
    }

    private static void outingBeyondTheMost() {
        Check.sentence("from one to the next by the steps of X and Y together, back to 0, 0, in t steps at most");
        Counted far = Check.told("y0 1 0;p20 0 10;p20 20 10;p0 20 10;p10 10 9;");
        outing(far, 99, 30, 80, 123);
        Counted near = Check.told("y0 1 0;p20 0 10;p20 20 10;p0 20 10;p10 11 9;");
        outing(near, 98, 39, 98, 1243);
        outing(near, 97, 30, 80, 123);
        Counted gate = Check.told("y0 1 0;p1 0 5;p0 1 5;");
        outing(gate, 1, 0, 0, 0);
        outing(gate, 2, 5, 2, 1);
        outing(gate, 3, 5, 2, 1);
        outing(gate, 4, 10, 4, 12);
    }

    private static void outingWorth() {
        Check.sentence("with most worth; of like ones fewest steps");
        Counted x = Check.told("y0 1 0;p5 0 9;p0 3 9;p0 4 8;p2 2 0;");
        outing(x, 5, 0, 0, 0);
        outing(x, 6, 9, 6, 2);
        outing(x, 8, 17, 8, 23);
        outing(x, 15, 17, 8, 23);
        outing(x, 16, 18, 16, 12);
        outing(x, 17, 18, 16, 12);
        outing(x, 18, 26, 18, 123);
        Counted nothing = Check.told("y0 1 0;p0 0 0;p1 1 0;");
        outing(nothing, 99, 0, 0, 0);
    }

    private static void outingOfLikeOnes() {
        Check.sentence("of like ones the first (as figures, each 1 more than the PLACE; the least number)");
        outing(Check.told("y0 1 0;p1 1 1;p1 1 1;p1 1 1;"), 99, 3, 4, 123);
        outing(Check.told("y0 1 0;p2 0 5;p2 0 5;p1 0 0;"), 99, 10, 4, 12);
        outing(Check.told("y0 1 0;p1 0 0;p2 0 5;"), 99, 5, 4, 2);
        outing(Check.told("y0 1 0;p2 1 1;p1 2 1;"), 6, 1, 6, 1);
        outing(Check.told("y0 1 0;p2 1 1;p1 2 1;"), 8, 2, 8, 12);
        Counted corner = Check.told("y0 1 0;p0 2 7;p2 0 7;p1 1 7;");
        outing(corner, 4, 7, 4, 1);
        outing(corner, 6, 14, 6, 13);
        outing(corner, 8, 21, 8, 132);
        Check.due("two ways round", Check.told("y0 1 0;p0 9 1;p9 9 1;p9 0 1;").outing(99, 2), 123);
    }

    private static void outingOfMany() {
        Check.sentence("worth; steps; the PLACES (0: none)");
        outing(Check.told("y0 1 0;"), 99, 0, 0, 0);
        outing(new Counted(), 99, 0, 0, 0);
        outing(Check.told("y0 1 0;p20 20 99;"), 79, 0, 0, 0);
        Counted six = Check.told("y0 1 0;p0 1 99;p0 2 99;p0 3 99;p0 4 99;p0 5 99;p0 6 99;");
        for (int t = 0; t <= 99; t++) Check.due("worth in " + t, six.outing(t, 0), 99 * Math.min(t / 2, 6));
        outing(six, 12, 594, 12, 123456);
        Counted back = Check.told("y0 1 0;p0 6 1;p0 5 1;p0 4 1;p0 3 1;p0 2 1;p0 1 1;");
        outing(back, 12, 6, 12, 123456);
        Counted far = Check.told("y0 1 0;p5 0 1;p0 5 1;p5 5 1;p5 4 1;p4 5 1;p1 0 1;");
        outing(far, 20, 6, 20, 253416);
    }

    // ---- COMPOSITION

    private static void compositionAt() {
        Check.sentence("COMPOSITION at q of a hundred (0 .. 100): CREDITORS (a SET) who ACCEPT q or less now");
        Counted x = Check.told("y0 1 0;c1 0;c100 1;c50 0;c5 20;");
        int[][] due = {{0, 0}, {1, 1}, {4, 1}, {5, 9}, {49, 9}, {50, 13}, {99, 13}, {100, 15}};
        for (int[] row : due) Check.due("at " + row[0], x.composition(row[0], 0), row[1]);
        x.week(1);
        Check.due("now", x.composition(99, 0), 15);
        Check.due("1 less", x.composition(98, 0), 13);
        Check.due("above", x.composition(101, 0), OUTSIDE);
        Check.due("below", x.composition(-1, 0), OUTSIDE);
        Check.due("what above", x.composition(0, 2), OUTSIDE);
        Check.due("what below", x.composition(0, -1), OUTSIDE);
        Check.due("far", x.composition(Integer.MAX_VALUE, Integer.MIN_VALUE), OUTSIDE);
        Check.due("no creditors", Check.told("y0 1 0;").composition(100, 0), 0);
    }

    private static void compositionBinds() {
        Check.sentence("it binds all (1), if S of all DEBTORS of these who are not FREE, twice, are more than S of all who are not FREE; else 0");
        Counted half = Check.told("y0 1 0;c10 0;c90 0;d0 50 0;d1 50 0;");
        Check.due("just half", half.composition(10, 1), 0);
        Counted above = Check.told("y0 1 0;c10 0;c90 0;d0 50 0;d1 49 0;");
        Check.due("above half", above.composition(10, 1), 1);
        Counted below = Check.told("y0 1 0;c10 0;c90 0;d0 50 0;d1 51 0;");
        Check.due("below half", below.composition(10, 1), 0);
        Check.due("all", below.composition(90, 1), 1);
        Check.due("none", below.composition(9, 1), 0);
        Check.due("no debtors", Check.told("y0 1 0;c1 0;").composition(100, 1), 0);
        Check.due("no yard", new Counted().composition(100, 1), 0);
        Counted free = Check.told("y0 1 0;c10 0;c90 0;d0 50 5;d1 50 0;");
        free.week(1);
        free.settle(0);
        Check.due("who is free is not of these", free.composition(10, 1), 0);
        Check.due("he is not of all", free.composition(90, 1), 1);
        Counted all = Check.told("y0 1 0;c10 0;d0 50 5;");
        Check.due("while he owes", all.composition(10, 1), 1);
        all.week(1);
        all.settle(0);
        Check.due("all are free", all.composition(100, 1), 0);
        Check.due("the creditor is there", all.composition(100, 0), 1);
    }

    // ---- YEAR

    private static void yearWeeks() {
        Check.sentence("YEAR: CASH of a DEBTOR behind n WEEKS (0 .. 60) in which H comes in and he pays L");
        Counted x = Check.told("y10 1 1;c1 0;d0 1 11;d0 9 9;d0 9 10;");
        for (int n = 0; n <= 60; n++) {
            Check.due("1 more each week", x.year(0, n), 10000 + n);
            Check.due("1 less each week", x.year(1, n), 10000 - n);
        }
        Check.due("as much as he pays", x.year(2, 60), 10000);
        Check.due("above", x.year(0, 61), OUTSIDE);
        Check.due("below", x.year(0, -1), OUTSIDE);
        Check.due("far above", x.year(0, Integer.MAX_VALUE), OUTSIDE);
        Check.due("far below", x.year(0, Integer.MIN_VALUE), OUTSIDE);
        Check.due("unknown", x.year(3, 0), UNKNOWN);
        Check.due("unknown below", x.year(-1, 0), UNKNOWN);
        Check.due("unknown and outside", x.year(3, 61), UNKNOWN);
        x.week(1);
        Check.due("in gaol, too", x.year(1, 1), 10009 + 9 - 10);
    }

    private static void yearBounded() {
        Check.sentence("and 10000 (bounded as told)");
        Counted rich = Check.told("y0 1 0;c1 0;d0 1 99;");
        rich.week(60);
        Check.due("below the greatest", rich.year(0, 40), 19900);
        Check.due("just the greatest", rich.year(0, 41), 19999);
        Check.due("no more", rich.year(0, 42), 19999);
        Check.due("the most", rich.year(0, 60), 19999);
        Counted poor = Check.told("y99 1 0;c1 0;d0 1 0;");
        for (int i = 0; i < 50; i++) {
            poor.goIn(0);
            poor.week(1);
        }
        Check.due("above the least", poor.year(0, 50), 100);
        Check.due("just the least", poor.year(0, 51), 1);
        Check.due("no less", poor.year(0, 52), 1);
        Check.due("the most, no less", poor.year(0, 60), 1);
    }

    // ---- CHAIN

    private static void chainsOfAll() {
        Check.sentence("till one who OWES nobody, or whose next one is in it already: how many DEBTORS; the last one");
        Counted x = allIn(Check.RICH.replace("999 0;", "999 99;"));
        x.week(1);
        for (int d = 0; d < 6; d++) {
            Check.due("owes nobody: how many", x.chain(d, 0), 1);
            Check.due("owes nobody: the last", x.chain(d, 1), d);
        }
        for (int d = 0; d < 5; d++) x.lend(d + 1, d, 1);
        for (int d = 0; d < 6; d++) {
            Check.due("to the last: how many", x.chain(d, 0), 6 - d);
            Check.due("to the last: who", x.chain(d, 1), 5);
        }
        x.lend(0, 5, 1);
        for (int d = 0; d < 6; d++) {
            Check.due("all round: how many", x.chain(d, 0), 6);
            Check.due("all round: the last", x.chain(d, 1), (d + 5) % 6);
        }
        x.lend(2, 5, 2);
        Check.due("back into the midst: how many", x.chain(0, 0), 6);
        Check.due("back into the midst: the last", x.chain(0, 1), 5);
        Check.due("from there: how many", x.chain(2, 0), 4);
        Check.due("from there: the last", x.chain(2, 1), 5);
    }

    private static void chainsOfLikeOnes() {
        Check.sentence("the one to whom he OWES most INSIDE (of like ones the least)");
        Counted x = allIn(Check.RICH.replace("999 0;", "999 99;"));
        x.week(1);
        x.lend(5, 3, 2);
        Check.due("one alone", x.chain(3, 1), 5);
        x.lend(4, 3, 2);
        Check.due("of like ones the least", x.chain(3, 1), 4);
        x.lend(0, 3, 1);
        Check.due("less than most", x.chain(3, 1), 4);
        x.lend(0, 3, 1);
        Check.due("of three like ones the least", x.chain(3, 1), 0);
        x.lend(5, 3, 1);
        Check.due("the most", x.chain(3, 1), 5);
        x.lend(3, 5, 4);
        Check.due("the other way about does not count", x.chain(3, 1), 0);
        Check.due("from the other", x.chain(5, 0), 3);
    }

    private static void chainWhat() {
        Check.sentence("CHAIN: what = 0 how many, 1 the last. UNKNOWN, OUTSIDE.");
        Counted x = Check.told(Check.RICH);
        Check.due("above", x.chain(0, 2), OUTSIDE);
        Check.due("below", x.chain(0, -1), OUTSIDE);
        Check.due("unknown", x.chain(6, 0), UNKNOWN);
        Check.due("unknown below", x.chain(-1, 1), UNKNOWN);
        Check.due("unknown and outside", x.chain(6, 2), UNKNOWN);
        Check.due("the last one that there is", x.chain(5, 1), 5);
    }

    // ---- QUIET

    private static void quietWeeks() {
        Check.sentence("QUIET: odds that no lure works in n WEEKS (0 .. 60), each by q of a hundred (0 .. 100): "
                + "a BILLION times (100 less q) / 100 each (cut)");
        for (int q = 0; q <= 100; q++) {
            Counted x = new Counted();
            long due = 1000000000L;
            for (int n = 0; n <= 60; n++) {
                Check.due(n + " weeks by " + q, x.quiet(n, q), due);
                due = due * (100 - q) / 100;
            }
        }
        Counted x = new Counted();
        Check.due("above", x.quiet(61, 0), OUTSIDE);
        Check.due("below", x.quiet(-1, 0), OUTSIDE);
        Check.due("odds above", x.quiet(0, 101), OUTSIDE);
        Check.due("odds below", x.quiet(0, -1), OUTSIDE);
        Check.due("far", x.quiet(Integer.MAX_VALUE, Integer.MIN_VALUE), OUTSIDE);
        Check.due("certain", x.quiet(60, 0), 1000000000);
        Check.due("never", x.quiet(60, 100), 0);
        Check.due("cut each time", x.quiet(5, 99), 0);
        Check.due("the last that is left", x.quiet(4, 99), 10);
    }
}
