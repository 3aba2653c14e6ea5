/** Section 2 and promises 5 to 17: each sentence of the document that names a boundary of WEEKS and deeds. */
public final class LifeBoundsTest {
    private static final int UNKNOWN = Check.UNKNOWN, OUTSIDE = Check.OUTSIDE, NOT = Check.NOT, FULL = Check.FULL;
    private static final String SIX = "d0 1 1;d0 1 1;d0 1 1;d0 1 1;d0 1 1;d0 1 1;";

    public static void main(String[] args) {
        atFirst();
        greatestCash();
        greatestCashIn();
        leastCash();
        whatIsAccepted();
        rooms();
        roomsThatAreLeft();
        costs();
        justTheCash();
        loans();
        owedOneWay();
        owedTheOtherWay();
        suits();
        arrests();
        arrestsOfOne();
        putOut();
        lodgingPaid();
        tellsSets();
        price();
        cleared();
        weeksAtOnce();
        weeksAbove9000();
        driftsAbove9000();
        sixteenUndone();
        Check.end();
    }

    private static Counted allIn(String text) {
        Counted x = Check.told(text);
        int debtors = x.told(4);
        for (int d = 0; d < debtors; d++) x.goIn(d);
        return x;
    }

    // ---- CASH

    private static void atFirst() {
        Check.sentence("A DEBTOR is 0 OUT (at first)");
        Counted x = Check.told("y9 6 6;c1 0;" + SIX);
        for (int d = 0; d < 6; d++) {
            Check.due("is out", x.debtor(d, 3), 0);
            Check.due("has no cash", x.debtor(d, 4), 10000);
            Check.due("owes nobody, is owed by nobody", x.debtor(d, 6), 10000);
        }
        Check.due("no weeks", x.told(7), 0);
        Check.due("nobody was arrested", x.told(14), 0);
        Check.due("no lodging was paid", x.told(15), 0);
    }

    private static void greatestCash() {
        Check.sentence("CASH is 0 at first (-9999 to 9999).");
        Counted x = Check.told("y0 1 0;c100 0;d0 999 99;d0 999 98;d0 999 1;");
        x.week(60);
        x.week(40);
        Check.due("a week below", x.debtor(0, 4), 19900);
        x.week(1);
        Check.due("just the greatest", x.debtor(0, 4), 19999);
        x.week(1);
        Check.due("no more", x.debtor(0, 4), 19999);
        Check.due("the other is below", x.debtor(1, 4), 10000 + 102 * 98);
        x.week(1);
        Check.due("in between is the greatest, too", x.debtor(1, 4), 19999);
        x.week(60);
        Check.due("it stays", x.debtor(1, 4), 19999);
        Check.due("far from it", x.debtor(2, 4), 10163);
        Check.due("settles out of it", x.settle(0), 999);
        Check.due("from the bound", x.debtor(0, 4), 19000);
    }

    private static void greatestCashIn() {
        Check.sentence("H comes in for all who are IN or OUT; who is IN pays L.");
        Counted x = allIn("y10 2 0;c100 0;d0 999 99;d0 999 10;");
        for (int i = 0; i < 2; i++) x.week(56);
        Check.due("below", x.debtor(0, 4), 10000 + 112 * 89);
        Check.due("what comes in is what is paid", x.debtor(1, 4), 10000);
        x.week(1);
        Check.due("first H comes in, to the greatest, then L is paid", x.debtor(0, 4), 19989);
        x.week(1);
        Check.due("again", x.debtor(0, 4), 19989);
        x.goOut(0);
        x.week(1);
        Check.due("out", x.debtor(0, 4), 19999);
    }

    private static void leastCash() {
        Check.sentence("CASH is 0 at first (-9999 to 9999).");
        Counted x = Check.told("y99 1 0;c100 0;d0 1 0;");
        for (int i = 1; i <= 101; i++) {
            x.goIn(0);
            x.week(1);
            Check.due("below by " + i, x.debtor(0, 4), 10000 - 99 * i);
        }
        Check.due("just the least", x.debtor(0, 4), 1);
        x.goIn(0);
        Check.due("is in again", x.debtor(0, 3), 1);
        x.week(1);
        Check.due("no less", x.debtor(0, 4), 1);
        Check.due("is put out", x.debtor(0, 3), 0);
        Check.due("lodging was paid all the same", x.told(15), 102 * 99);
        Counted between = Check.told("y97 1 0;c100 0;d0 1 0;");
        for (int i = 1; i <= 103; i++) {
            between.goIn(0);
            between.week(1);
        }
        Check.due("not yet", between.debtor(0, 4), 10000 - 103 * 97);
        between.goIn(0);
        between.week(1);
        Check.due("in between is the least, too", between.debtor(0, 4), 1);
    }

    // ---- ACCEPTS

    private static void whatIsAccepted() {
        Check.sentence("of a hundred P less K times n, but the lesser of P and 5 at least");
        for (int p = 1; p <= 100; p++) {
            for (int k = 0; k <= 20; k++) {
                Counted x = Check.told("y0 1 0;c" + p + " " + k + ";");
                int due = p;
                for (int n = 0; n <= 100; n++) {
                    Check.due(p + " less " + k + " behind " + n, x.accepts(0, n), due);
                    due = due - k < Math.min(p, 5) ? Math.min(p, 5) : due - k;
                }
                Check.due("behind the most", x.accepts(0, 9999), k == 0 ? p : Math.min(p, 5));
            }
        }
        Check.sentence("What a CREDITOR ACCEPTS behind n WEEKS (0 .. 9999) from the first. UNKNOWN, OUTSIDE.");
        Counted x = Check.told("y0 1 0;c100 1;c9 0;");
        x.week(7);
        Check.due("from the first, not from now", x.accepts(0, 0), 100);
        Check.due("the last that is allowed", x.accepts(1, 9999), 9);
        Check.due("the first that is not", x.accepts(1, 10000), OUTSIDE);
        Check.due("below", x.accepts(1, -1), OUTSIDE);
        Check.due("far above", x.accepts(1, Integer.MAX_VALUE), OUTSIDE);
        Check.due("far below", x.accepts(1, Integer.MIN_VALUE), OUTSIDE);
        Check.due("no such creditor", x.accepts(2, 0), UNKNOWN);
        Check.due("nor below", x.accepts(-1, 0), UNKNOWN);
        Check.due("nor far", x.accepts(Integer.MAX_VALUE, 0), UNKNOWN);
        Check.due("both: unknown", x.accepts(2, 10000), UNKNOWN);
    }

    // ---- IN

    private static void rooms() {
        Check.sentence("IN: one who is OUT, if fewer than R are IN.");
        for (int r = 1; r <= 6; r++) {
            Counted x = Check.told("y0 " + r + " 0;c1 0;" + SIX);
            for (int d = 0; d < 6; d++) Check.due(r + " rooms, debtor " + d, x.goIn(d), d < r ? (2 << d) - 1 : NOT);
            Check.due("are in", x.told(8), (1 << r) - 1);
            Check.due("are out", x.told(9), 63 - (1 << r) + 1);
            x.goOut(0);
            Check.due("a room is left", x.goIn(5), r == 6 ? NOT : (1 << r) - 2 + 32);
        }
    }

    private static void roomsThatAreLeft() {
        Check.sentence("UNKNOWN, NOT: he is not OUT, no ROOM.");
        Counted x = Check.told("y9 2 0;c100 0;d0 9 18;d0 9 8;d0 9 9;d0 9 30;");
        x.goIn(0);
        x.goIn(1);
        Check.due("no room", x.goIn(2), NOT);
        Check.due("in already and no room", x.goIn(0), NOT);
        x.week(1);
        Check.due("who was put out has none", x.goIn(2), 1 + 4);
        Check.due("no room for him", x.goIn(1), NOT);
        Check.due("he settles", x.settle(0), 9);
        Check.due("who is free has none", x.goIn(3), 4 + 8);
        Check.due("who is free goes not in", x.goIn(0), NOT);
        x.goOut(2);
        Check.due("who is out has none", x.goIn(1), 2 + 8);
    }

    // ---- SETTLES

    private static void costs() {
        Check.sentence("pays S times what his CREDITOR ACCEPTS now / 100 (cut, 1 more, if that is not whole)");
        int[] sums = {1, 50, 99, 100, 101, 999};
        for (int p = 1; p <= 100; p++) {
            StringBuilder text = new StringBuilder("y0 1 0;c" + p + " 0;");
            for (int s : sums) text.append("d0 ").append(s).append(" 0;");
            Counted x = Check.told(text.toString());
            for (int d = 0; d < 6; d++) {
                int hundredths = sums[d] * p;
                int due = hundredths / 100;
                if (hundredths % 100 != 0) due++;
                Check.due(sums[d] + " at " + p, x.debtor(d, 5), due);
            }
        }
        Counted whole = Check.told("y0 1 0;c1 0;c99 0;c100 0;d0 100 0;d0 101 0;d1 100 0;d1 1 0;d2 999 0;d2 1 0;");
        int[] due = {1, 2, 99, 1, 999, 1};
        for (int d = 0; d < 6; d++) Check.due("of debtor " + d, whole.debtor(d, 5), due[d]);
    }

    private static void justTheCash() {
        Check.sentence("if he has as much CASH: FREE");
        Counted x = Check.told("y0 2 0;c50 0;d0 19 10;d0 20 10;d0 21 10;d0 22 10;d0 20 9;");
        x.goIn(0);
        x.goIn(2);
        x.week(1);
        Check.due("in, just as much, by the part that is not whole", x.settle(0), 10);
        Check.due("out, just as much", x.settle(1), 10);
        Check.due("in, 1 less, by the part that is not whole", x.settle(2), NOT);
        Check.due("out, 1 less", x.settle(3), NOT);
        Check.due("less comes in", x.settle(4), NOT);
        Check.due("free are", x.told(10), 3);
        Check.due("nothing is left", x.debtor(1, 4), 10000);
        x.week(1);
        Check.due("a week later", x.settle(2), 11);
        Check.due("what is left", x.debtor(2, 4), 10009);
        Check.due("and he", x.settle(3), 11);
        Check.due("now he has enough", x.settle(4), 10);
        Check.due("all are free", x.told(10), 31);
    }

    // ---- LENDS

    private static void loans() {
        Check.sentence("of two who are IN one gives a sum of his CASH (that he has) to the other one");
        Counted x = allIn("y0 3 0;c100 0;d0 999 50;d0 999 0;d0 999 99;d0 999 99;");
        x.week(1);
        Check.due("1 more than he has", x.lend(0, 1, 51), NOT);
        Check.due("just what he has", x.lend(0, 1, 50), 50);
        Check.due("nothing is left", x.debtor(0, 4), 10000);
        Check.due("who has nothing", x.lend(0, 1, 1), NOT);
        Check.due("one is out", x.lend(2, 3, 1), NOT);
        Check.due("the other one is out", x.lend(3, 2, 1), NOT);
        Check.sentence("LENDS (1 .. 999): what the other one OWES him INSIDE (0: nothing).");
        x.week(20);
        Check.due("below the least", x.lend(0, 2, 0), OUTSIDE);
        Check.due("far below", x.lend(0, 2, Integer.MIN_VALUE), OUTSIDE);
        Check.due("the least", x.lend(0, 2, 1), 1);
        Check.due("the greatest", x.lend(2, 1, 999), 999);
        Check.due("above the greatest", x.lend(2, 1, 1000), OUTSIDE);
        Check.due("far above", x.lend(2, 1, Integer.MAX_VALUE), OUTSIDE);
        Check.due("he gave 999, got 1", x.debtor(2, 4), 10000 + 21 * 99 - 999 + 1);
    }

    private static Counted twoRich() {
        Counted x = allIn("y0 3 0;c100 0;d0 999 99;d0 999 99;d0 999 99;");
        x.week(60);
        x.week(60);
        return x;
    }

    private static void owedOneWay() {
        Check.sentence("OWED INSIDE (less what the other way about is OWED; 9999 at most either way)");
        Counted x = twoRich();
        for (int i = 1; i <= 10; i++) x.lend(0, 1, 999);
        Check.due("owes much", x.owes(1, 0), 9990);
        x.week(60);
        Check.due("1 above", x.lend(0, 1, 10), FULL);
        Check.due("far above", x.lend(0, 1, 999), FULL);
        Check.due("nothing was given", x.owes(1, 0), 9990);
        Check.due("just the most", x.lend(0, 1, 9), 9999);
        Check.due("by 1 above", x.lend(0, 1, 1), FULL);
        Check.due("another owes him, too", x.lend(0, 2, 999), 999);
        Check.due("the net of both", x.debtor(0, 6), 10000 + 9999 + 999);
        Check.due("back", x.lend(1, 0, 1), 0);
        Check.due("1 less is owed", x.owes(1, 0), 9998);
        Check.due("and again the most", x.lend(0, 1, 1), 9999);
    }

    private static void owedTheOtherWay() {
        Check.sentence("OWED INSIDE (less what the other way about is OWED; 9999 at most either way)");
        Counted x = twoRich();
        for (int i = 1; i <= 10; i++) x.lend(1, 0, 999);
        x.week(60);
        Check.due("just the most", x.lend(1, 0, 9), 9999);
        Check.due("above", x.lend(1, 0, 1), FULL);
        Check.due("less what the other way about is owed", x.lend(0, 1, 999), 0);
        Check.due("what is left", x.owes(0, 1), 9000);
        for (int i = 1; i <= 9; i++) x.lend(0, 1, 999);
        Check.due("what is left then", x.owes(0, 1), 9);
        Check.due("just all", x.lend(0, 1, 9), 0);
        Check.due("nothing is owed", x.owes(0, 1) + x.owes(1, 0), 0);
        x.week(60);
        Check.due("from nothing on", x.lend(0, 1, 1), 1);
        Check.due("beyond what the other way about was owed", x.lend(1, 0, 3), 2);
    }

    // ---- SUES

    private static void suits() {
        Check.sentence("that one pays, as far as he has CASH; if not all: he is in the BAILIE's gaol; what he paid is OWED no more");
        for (int gone = 0; gone <= 10; gone++) {
            Counted x = allIn("y0 3 0;c100 0;d0 999 99;d0 999 0;d0 999 50;");
            x.week(1);
            x.lend(0, 1, 10);
            if (gone > 0) x.lend(1, 2, gone);
            Check.due("pays what he has", x.sue(0, 1), 10 - gone);
            Check.due("in gaol, if not all", x.debtor(1, 3), gone == 0 ? 1 : 4);
            Check.due("owes the rest", x.owes(1, 0), gone);
            Check.due("has nothing", x.debtor(1, 4), 10000);
            Check.due("he got it", x.debtor(0, 4), 10099 - gone);
            Check.due("no more now", x.sue(0, 1), NOT);
        }
        Counted more = allIn("y0 3 0;c100 0;d0 999 99;d0 999 1;");
        more.week(1);
        more.lend(0, 1, 10);
        Check.due("he has more: he pays all", more.sue(0, 1), 10);
        Check.due("1 is left", more.debtor(1, 4), 10001);
        Check.due("he is in", more.debtor(1, 3), 1);
    }

    // ---- a WEEK

    private static void arrests() {
        Check.sentence("Then of those who are OUT and owe, the B with the greatest S (of like ones the least) are ARRESTED: GAOL.");
        int[] order = {1, 2, 5, 4, 0, 3};
        int due = 0;
        for (int b = 0; b <= 6; b++) {
            Counted x = Check.told("y0 6 " + b + ";c1 0;d0 5 0;d0 9 0;d0 9 0;d0 1 0;d0 7 0;d0 9 0;");
            Check.due("next by " + b, x.told(12), due);
            x.week(1);
            Check.due("in gaol by " + b, x.told(11), due);
            Check.due("out still", x.told(9), 63 - due);
            Check.due("how many", x.told(14), b);
            x.week(60);
            Check.due("all in the end", x.told(14), b == 0 ? 0 : 6);
            Check.due("in the town's gaol", x.debtor(0, 3), b == 0 ? 0 : 2);
            if (b < 6) due |= 1 << order[b];
        }
    }

    private static void arrestsOfOne() {
        Check.sentence("NEXT: who would be ARRESTED, if a WEEK passed (a SET).");
        for (int b = 1; b <= 6; b++) {
            for (int out = 0; out < 6; out++) {
                Counted x = allIn("y0 6 " + b + ";c1 0;" + SIX);
                Check.due("nobody is out", x.told(12), 0);
                x.goOut(out);
                Check.due("he alone", x.told(12), 1 << out);
                x.week(1);
                Check.due("was arrested", x.debtor(out, 3), 2);
                Check.due("he alone was", x.told(14), 1);
                Check.due("nobody more", x.told(12), 0);
            }
        }
        Counted free = Check.told("y0 1 1;c1 0;d0 100 1;d0 999 0;d0 1 0;");
        free.week(1);
        free.settle(0);
        Check.due("the free is passed by", free.told(12), 4);
        free.week(2);
        Check.due("two were arrested", free.told(14), 2);
        Check.due("he is free still", free.debtor(0, 3), 3);
    }

    private static void putOut() {
        Check.sentence("Then who is IN and has less than 0 CASH is put OUT.");
        Counted x = allIn("y10 3 6;c100 0;d0 1 9;d0 1 10;d0 1 11;");
        Check.due("nobody is next", x.told(12), 0);
        Check.due("who stays is safe", x.told(13), 2 + 4);
        x.week(1);
        Check.due("1 below 0", x.debtor(0, 4), 9999);
        Check.due("is put out", x.debtor(0, 3), 0);
        Check.due("0 stays in", x.debtor(1, 3), 1);
        Check.due("1 above 0 stays in", x.debtor(2, 3), 1);
        Check.due("nobody was arrested: he was in then", x.told(14), 0);
        Check.due("he is next", x.told(12), 1);
        x.week(1);
        Check.due("he was arrested", x.debtor(0, 3), 2);
        Check.sentence("SAFE: who is not OUT, and would not be put OUT by that WEEK.");
        Check.due("in gaol he is safe", x.told(13), 7);
        x.goOut(1);
        Check.due("out he is not", x.told(13), 5);
    }

    private static void lodgingPaid() {
        Check.sentence("what was paid for lodging (999999 at most), too");
        Counted x = allIn("y99 6 0;c100 0;" + SIX.replace("1 1;", "1 99;"));
        for (int i = 0; i < 28; i++) x.week(60);
        x.week(3);
        Check.due("below", x.told(15), 999702);
        x.goOut(0);
        x.goOut(1);
        x.goOut(2);
        x.week(1);
        Check.due("just the most", x.told(15), 999999);
        x.week(1);
        Check.due("no more", x.told(15), 999999);
        x.undo();
        x.undo();
        Check.due("undone", x.told(15), 999702);
        x.goIn(0);
        x.week(1);
        Check.due("in between is the most, too", x.told(15), 999999);
        Check.due("cash is paid all the same", x.debtor(3, 4), 10000);
    }

    // ---- promise 5

    private static void tellsSets() {
        Check.sentence("8 who is IN, 9 OUT, 10 FREE, 11 in any gaol, 12 NEXT, 13 SAFE (SETS)");
        Counted x = Check.told("y0 6 6;c100 0;" + SIX);
        Check.due("all are out", x.told(9), 63);
        Check.due("all are next", x.told(12), 63);
        Check.due("nobody is safe", x.told(13), 0);
        for (int d = 0; d < 6; d++) x.goIn(d);
        Check.due("all are in", x.told(8), 63);
        Check.due("nobody is out", x.told(9), 0);
        Check.due("nobody is next", x.told(12), 0);
        Check.due("all are safe", x.told(13), 63);
        x.week(1);
        for (int d = 0; d < 6; d++) x.settle(d);
        Check.due("all are free", x.told(10), 63);
        Check.due("the free are safe", x.told(13), 63);
        Counted gaol = Check.told("y0 6 6;c100 0;" + SIX);
        gaol.week(1);
        Check.due("all are in gaol", gaol.told(11), 63);
        Check.due("who is in gaol is safe", gaol.told(13), 63);
        Check.sentence("20 how many can be undone. OUTSIDE.");
        Check.due("below the first", x.told(-1), OUTSIDE);
        Check.due("behind the last", x.told(21), OUTSIDE);
        Check.due("far below", x.told(Integer.MIN_VALUE), OUTSIDE);
        Check.due("far above", x.told(Integer.MAX_VALUE), OUTSIDE);
        Check.due("the last", x.told(20), 13);
        bothGaols();
    }

    private static void bothGaols() {
        Check.sentence("2 in the town's GAOL, 3 FREE, 4 in the BAILIE's gaol");
        Counted x = Check.told("y0 3 1;c100 0;d0 1 9;d0 1 0;d0 9 0;d0 1 0;");
        x.goIn(0);
        x.goIn(1);
        x.goIn(3);
        x.week(1);
        Check.due("the town's alone", x.told(11), 4);
        x.lend(0, 1, 4);
        x.lend(1, 3, 1);
        Check.due("he has 1 less", x.sue(0, 1), 3);
        Check.due("the bailie's, too", x.told(11), 4 + 2);
        Check.due("is in the town's", x.debtor(2, 3), 2);
        Check.due("is in the bailie's", x.debtor(1, 3), 4);
        x.week(60);
        Check.due("both stay", x.told(11), 4 + 2);
    }

    private static void price() {
        Check.sentence("PRICE: of H of all who are IN or OUT the greatest behind the R greatest; 0, if there is none.");
        int[] due = {20, 20, 10, 5, 3, 0};
        for (int r = 1; r <= 6; r++) {
            Counted x = Check.told("y0 " + r + " 0;c1 0;d0 1 10;d0 1 20;d0 1 20;d0 1 5;d0 1 3;d0 1 99;");
            Check.due("behind " + r, x.told(16), due[r - 1]);
            x.goIn(5);
            Check.due("in or out", x.told(16), due[r - 1]);
        }
        Counted first = Check.told("y0 1 0;c1 0;d0 1 7;d0 1 99;");
        Check.due("the first one is left", first.told(16), 7);
        first.week(1);
        first.settle(1);
        Check.due("who is free is not counted", first.told(16), 0);
        Counted gaol = Check.told("y0 1 1;c1 0;d0 1 7;d0 9 99;d0 1 8;");
        Check.due("of three", gaol.told(16), 8);
        gaol.week(1);
        Check.due("who is in gaol is not counted", gaol.told(16), 7);
        Check.due("as many as rooms", Check.told("y0 2 0;c1 0;d0 1 7;d0 1 9;").told(16), 0);
        Check.due("no debtors", Check.told("y0 2 0;").told(16), 0);
        Check.due("no yard", new Counted().told(16), 0);
    }

    private static void cleared() {
        Check.sentence("CLEARED: all that is OWED INSIDE together, less all NETS above 0 together.");
        Counted x = allIn(Check.RICH);
        x.week(1);
        Check.due("nothing", x.told(17), 0);
        x.lend(0, 1, 1);
        Check.due("one debt alone", x.told(17), 0);
        x.lend(1, 2, 1);
        Check.due("passed on", x.told(17), 1);
        x.lend(2, 0, 1);
        Check.due("all round", x.told(17), 3);
        for (int d = 0; d < 3; d++) Check.due("nets are even", x.debtor(d, 6), 10000);
        x.lend(2, 0, 5);
        Check.due("5 more of one", x.told(17), 3);
        Check.due("he is owed", x.debtor(2, 6), 10005);
        Check.due("he owes", x.debtor(0, 6), 9995);
    }

    // ---- promises 10, 16, 17

    private static void weeksAtOnce() {
        Check.sentence("n WEEKS (1 .. 60): WEEKS. OUTSIDE, NOT: no YARD; FULL: WEEKS are above 9000.");
        Counted x = Check.told("y0 1 0;");
        int[] wrong = {0, -1, 61, Integer.MIN_VALUE, Integer.MAX_VALUE};
        for (int n : wrong) Check.due("weeks " + n, x.week(n), OUTSIDE);
        for (int n : wrong) Check.due("drift " + n, x.drift(n), OUTSIDE);
        Check.due("nothing passed", x.told(7), 0);
        int weeks = 0;
        for (int n = 1; n <= 60; n++) {
            weeks += n;
            Check.due("weeks " + n, x.week(n), weeks);
        }
        Counted none = new Counted();
        Check.due("no yard", none.week(1), NOT);
        Check.due("no yard, the most", none.week(60), NOT);
        Check.due("no yard and outside", none.week(61), OUTSIDE);
        Check.due("no yard, by draws", none.drift(60), NOT);
        Check.due("no yard, by draws, outside", none.drift(0), OUTSIDE);
    }

    private static void weeksAbove9000() {
        Check.sentence("FULL: WEEKS are above 9000.");
        Counted x = Check.told("y0 1 0;c100 20;d0 9 0;");
        for (int i = 0; i < 150; i++) x.week(60);
        Check.due("at 9000", x.told(7), 9000);
        Check.due("one more", x.week(1), 9001);
        Check.due("above", x.week(1), FULL);
        Check.due("above, the most", x.week(60), FULL);
        Check.due("above and outside", x.week(61), OUTSIDE);
        Check.due("above, by draws", x.drift(1), FULL);
        Check.due("above, by draws, outside", x.drift(0), OUTSIDE);
        Check.due("it stays", x.told(7), 9001);
        x.undo();
        Check.due("at 9000 the most", x.week(60), 9060);
        Check.due("far above", x.week(1), FULL);
        Check.due("what is accepted then", x.debtor(0, 5), 1);
        x.undo();
        x.undo();
        x.week(59);
        Check.due("at 8999", x.week(60), 9059);
    }

    private static void driftsAbove9000() {
        Check.sentence("n WEEKS (1 .. 60) BY DRAWS: how many were ARRESTED. OUTSIDE, NOT: no YARD; FULL: WEEKS are above 9000.");
        Counted x = Check.told("y0 1 0;");
        for (int i = 0; i < 150; i++) Check.due("nobody is arrested", x.drift(60), 0);
        Check.due("at 9000", x.drift(1), 0);
        Check.due("at 9001", x.drift(1), FULL);
        x.undo();
        Check.due("at 9000 the most", x.drift(60), 0);
        Check.due("at 9060", x.told(7), 9060);
        Check.due("above", x.drift(60), FULL);
    }

    private static void sixteenUndone() {
        Check.sentence("(16 at most are kept, the oldest are lost)");
        for (int many = 0; many <= 40; many++) {
            Counted x = Check.told("y0 1 0;c1 0;d0 1 1;");
            for (int i = 0; i < many; i++) x.week(1 + i % 2);
            int kept = Math.min(many, 16);
            Check.due("can be undone of " + many, x.told(20), kept);
            for (int left = kept - 1; left >= 0; left--) {
                Check.due("how many more", x.undo(), left);
                int behind = many - kept + left;
                Check.due("weeks", x.told(7), behind + behind / 2);
            }
            Check.due("no more", x.undo(), NOT);
            Check.due("the oldest is lost", x.told(7), many - kept + (many - kept) / 2);
        }
    }
}
