/** Promises 18 to 24: what is tried, by which nothing changes. */
public final class TriedTest {
    private static final int NONE = Check.NONE, UNKNOWN = Check.UNKNOWN, OUTSIDE = Check.OUTSIDE, NOT = Check.NOT;

    public static void main(String[] args) {
        soon();
        soonRefused();
        cheapest();
        outing();
        outingTies();
        outingRefused();
        composition();
        year();
        chain();
        quiet();
        nothingChanges();
        Check.end();
    }

    private static void soon() {
        Counted x = Check.told("y10 3 1;c100 0;c100 1;d0 200 1;d0 201 1;d1 50 1;d0 20 11;d0 1 0;");
        Check.due("18 the last week", x.soon(0), 200);
        Check.due("18 a week too late", x.soon(1), NONE);
        Check.due("18 it becomes less", x.soon(2), 34);
        Check.due("18 out", x.soon(3), 2);
        Check.due("18 nothing comes in", x.soon(4), NONE);
        x.goIn(3);
        Check.due("18 in: lodging is paid", x.soon(3), 20);
        x.goIn(0);
        Check.due("18 in: as if not put out", x.soon(0), NONE);
        x.week(20);
        Check.due("18 now", x.soon(3), 0);
        Check.due("18 weeks count from the first", x.soon(0), NOT);
        Counted late = Check.told("y0 1 0;c100 5;d0 100 10;");
        late.week(5);
        Check.due("18 from now", late.soon(0), 2);
    }

    private static void soonRefused() {
        Counted x = Check.told(Check.TOWN);
        Check.due("18 unknown", x.soon(4), UNKNOWN);
        Check.due("18 unknown below", x.soon(-1), UNKNOWN);
        Check.due("19 unknown", x.cheapest(4, 0), UNKNOWN);
        Check.due("19 unknown below", x.cheapest(-1, 0), UNKNOWN);
        Check.due("19 unknown ahead of outside", x.cheapest(4, 2), UNKNOWN);
        Check.due("19 outside", x.cheapest(0, 2), OUTSIDE);
        Check.due("19 outside below", x.cheapest(0, -1), OUTSIDE);
        x.week(1);
        Check.due("18 in gaol", x.soon(2), NOT);
        Check.due("19 in gaol", x.cheapest(2, 0), NOT);
        Check.due("19 outside ahead of not", x.cheapest(2, 2), OUTSIDE);
        x.week(1);
        x.week(1);
        Check.due("18 in gaol, too", x.soon(0), NOT);
        Counted free = Check.told("y0 1 0;c1 0;d0 1 1;");
        free.week(1);
        free.settle(0);
        Check.due("18 free", free.soon(0), NOT);
        Check.due("19 free", free.cheapest(0, 1), NOT);
    }

    private static void cheapest() {
        Counted x = Check.told("y10 3 0;c100 10;c100 1;c50 0;d0 100 40;d1 60 1;d2 200 99;d2 122 1;d2 120 1;d0 200 20;");
        Check.due("19 out: waits till the least", x.cheapest(0, 0), 10);
        Check.due("19 out: the least", x.cheapest(0, 1), 5);
        Check.due("19 no sooner than he can", x.cheapest(1, 0), 60);
        Check.due("19 what it is then", x.cheapest(1, 1), 24);
        Check.due("19 nothing becomes less: at once", x.cheapest(2, 0), 2);
        Check.due("19 a week too late", x.cheapest(3, 0), NONE);
        Check.due("19 how much then", x.cheapest(3, 1), NONE);
        Check.due("19 the last week", x.cheapest(4, 0), 60);
        x.goIn(0);
        x.goIn(5);
        Check.due("19 in: lodging counts, of like ones the least", x.cheapest(0, 0), 3);
        Check.due("19 in: together", x.cheapest(0, 1), 100);
        Check.due("19 in: waiting pays, to 9 as to 10 weeks", x.cheapest(5, 0), 9);
        Check.due("19 in: waiting pays much", x.cheapest(5, 1), 110);
        x.week(2);
        Check.due("19 from now", x.cheapest(5, 0), 7);
        Check.due("19 from now together", x.cheapest(5, 1), 90);
    }

    private static void outing() {
        Counted x = Check.told(Check.TOWN);
        int[][] due = {{0, 0, 0, 0}, {9, 0, 0, 0}, {10, 7, 10, 2}, {13, 7, 10, 2}, {14, 10, 14, 1}, {15, 10, 14, 1},
            {16, 18, 16, 142}, {39, 18, 16, 142}, {40, 68, 40, 1342}, {99, 68, 40, 1342}};
        for (int[] row : due) {
            for (int what = 0; what <= 2; what++) Check.due("20 " + row[0] + ", " + what, x.outing(row[0], what), row[1 + what]);
        }
        Counted gate = Check.told("y0 1 0;p0 0 7;p0 1 1;");
        Check.due("20 at the gate", gate.outing(0, 0), 7);
        Check.due("20 no steps", gate.outing(0, 1), 0);
        Check.due("20 the place", gate.outing(0, 2), 1);
        Check.due("20 one step is not enough", gate.outing(1, 2), 1);
        Check.due("20 there and back", gate.outing(2, 2), 12);
    }

    private static void outingTies() {
        Counted worth = Check.told("y0 1 0;p2 0 5;p0 2 5;p1 0 5;p9 9 0;");
        Check.due("20 of like worth fewest steps", worth.outing(3, 2), 3);
        Check.due("20 both on one line", worth.outing(4, 2), 13);
        Counted none = Check.told("y0 1 0;p1 0 0;p0 0 0;p3 0 4;");
        Check.due("20 nothing of no worth", none.outing(99, 2), 3);
        Check.due("20 nothing at all", none.outing(5, 2), 0);
        Counted round = Check.told("y0 1 0;p1 1 1;p1 0 1;p0 1 1;");
        Check.due("20 of like ones the first", round.outing(99, 2), 213);
        Counted six = Check.told("y0 1 0;p1 0 1;p2 0 1;p3 0 1;p4 0 1;p5 0 1;p6 0 1;");
        Check.due("20 six", six.outing(12, 2), 123456);
        Check.due("20 five", six.outing(11, 2), 12345);
    }

    private static void outingRefused() {
        Counted x = Check.told(Check.TOWN);
        Check.due("20 outside", x.outing(100, 0), OUTSIDE);
        Check.due("20 outside below", x.outing(-1, 0), OUTSIDE);
        Check.due("20 what outside", x.outing(0, 3), OUTSIDE);
        Check.due("20 what outside below", x.outing(0, -1), OUTSIDE);
        Check.due("20 no yard", new Counted().outing(99, 1), 0);
    }

    private static void composition() {
        Counted x = Check.told("y0 1 0;c80 10;c40 0;c20 0;d0 100 99;d1 60 0;d2 40 0;");
        Check.due("21 none", x.composition(19, 0), 0);
        Check.due("21 none binds", x.composition(19, 1), 0);
        Check.due("21 one", x.composition(20, 0), 4);
        Check.due("21 q or less", x.composition(40, 0), 6);
        Check.due("21 just half", x.composition(40, 1), 0);
        Check.due("21 all", x.composition(80, 0), 7);
        Check.due("21 all are bound", x.composition(80, 1), 1);
        Check.due("21 the most", x.composition(100, 0), 7);
        Check.due("21 the least", x.composition(0, 0), 0);
        x.week(4);
        Check.due("21 now", x.composition(40, 0), 7);
        Check.due("21 not yet", x.composition(39, 0), 4);
        x.settle(0);
        Check.due("21 the free count no more", x.composition(20, 1), 0);
        Check.due("21 of those who are left", x.composition(40, 1), 1);
        Check.due("21 his creditor stays", x.composition(40, 0), 7);
        Counted free = Check.told("y0 1 0;c10 0;c90 0;d0 60 0;d1 100 99;");
        Check.due("21 too few", free.composition(10, 1), 0);
        free.week(1);
        free.settle(1);
        Check.due("21 enough of those who are not free", free.composition(10, 1), 1);
        Check.due("21 outside", x.composition(101, 0), OUTSIDE);
        Check.due("21 outside below", x.composition(-1, 0), OUTSIDE);
        Check.due("21 what outside", x.composition(0, 2), OUTSIDE);
        Check.due("21 what outside below", x.composition(0, -1), OUTSIDE);
        Counted gaol = Check.told("y0 1 1;c10 0;c20 0;d0 50 0;d1 49 0;");
        gaol.week(1);
        Check.due("21 who is in gaol counts", gaol.composition(10, 1), 1);
    }

    private static void year() {
        Counted x = Check.told("y10 2 1;c100 0;d0 1 30;d0 2 5;d0 3 10;d0 1 99;");
        Check.due("22 no week", x.year(0, 0), 10000);
        Check.due("22 a week", x.year(0, 1), 10020);
        Check.due("22 the most", x.year(0, 60), 11200);
        Check.due("22 below 0", x.year(1, 60), 9700);
        x.week(1);
        Check.due("22 from now, in gaol, too", x.year(2, 3), 10010);
        Check.due("22 from now, out", x.year(0, 2), 10070);
        Check.due("22 outside", x.year(0, 61), OUTSIDE);
        Check.due("22 outside below", x.year(0, -1), OUTSIDE);
        Check.due("22 unknown", x.year(4, 0), UNKNOWN);
        Check.due("22 unknown below", x.year(-1, 0), UNKNOWN);
        Check.due("22 unknown ahead of outside", x.year(4, 61), UNKNOWN);
    }

    private static void chain() {
        Counted x = Check.told(Check.RICH);
        for (int d = 0; d < 6; d++) x.goIn(d);
        x.week(10);
        x.lend(5, 4, 1);
        Check.due("23 the least", x.chain(4, 0), 2);
        x.undo();
        x.lend(1, 0, 10);
        x.lend(2, 0, 10);
        x.lend(5, 0, 9);
        Check.due("23 of like ones the least", x.chain(0, 1), 1);
        Check.due("23 two", x.chain(0, 0), 2);
        Check.due("23 who owes nobody", x.chain(1, 0), 1);
        Check.due("23 is the last himself", x.chain(1, 1), 1);
        x.lend(2, 0, 1);
        Check.due("23 the most", x.chain(0, 1), 2);
        x.lend(5, 2, 50);
        x.lend(1, 5, 20);
        Check.due("23 on and on", x.chain(0, 0), 4);
        Check.due("23 to the last", x.chain(0, 1), 1);
        x.lend(2, 1, 60);
        Check.due("23 round: whose next is in it", x.chain(0, 0), 4);
        Check.due("23 round: the last", x.chain(0, 1), 1);
        Check.due("23 round from within", x.chain(5, 1), 2);
        Check.due("23 round how many", x.chain(5, 0), 3);
        x.lend(0, 4, 5);
        x.lend(4, 3, 3);
        Check.due("23 all six", x.chain(3, 0), 6);
        Check.due("23 the last of six", x.chain(3, 1), 1);
        Check.due("23 outside", x.chain(0, 2), OUTSIDE);
        Check.due("23 outside below", x.chain(0, -1), OUTSIDE);
        Check.due("23 unknown", x.chain(6, 0), UNKNOWN);
        Check.due("23 unknown below", x.chain(-1, 0), UNKNOWN);
        Check.due("23 unknown ahead of outside", x.chain(6, 2), UNKNOWN);
    }

    private static void quiet() {
        Counted x = new Counted();
        Check.due("24 no week", x.quiet(0, 50), 1000000000);
        Check.due("24 no lure", x.quiet(60, 0), 1000000000);
        Check.due("24 always", x.quiet(1, 100), 0);
        Check.due("24 always, no week", x.quiet(0, 100), 1000000000);
        Check.due("24 half", x.quiet(2, 50), 250000000);
        Check.due("24 cut each time", x.quiet(10, 93), 0);
        Check.due("24 cut each time, before the end", x.quiet(7, 93), 8);
        Check.due("24 three", x.quiet(3, 10), 729000000);
        Check.due("24 outside", x.quiet(61, 0), OUTSIDE);
        Check.due("24 outside below", x.quiet(-1, 0), OUTSIDE);
        Check.due("24 odds outside", x.quiet(0, 101), OUTSIDE);
        Check.due("24 odds outside below", x.quiet(0, -1), OUTSIDE);
    }

    private static void nothingChanges() {
        Counted x = Check.told(Check.TOWN);
        x.goIn(0);
        x.goIn(3);
        x.week(1);
        x.lend(0, 3, 5);
        String before = Check.allOf(x);
        x.soon(0);
        x.cheapest(0, 1);
        x.outing(99, 0);
        x.composition(99, 1);
        x.year(0, 60);
        x.chain(3, 0);
        x.quiet(60, 1);
        Check.same("tried: nothing changes", Check.allOf(x), before);
    }
}
