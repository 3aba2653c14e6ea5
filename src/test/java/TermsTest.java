/** "Terms" and sections 1 to 3, from the first line on: each sentence that no test of a boundary has quoted. */
public final class TermsTest {
    private static final int NONE = Check.NONE, UNKNOWN = Check.UNKNOWN, OUTSIDE = Check.OUTSIDE, NOT = Check.NOT;

    private static long seed = 0;

    public static void main(String[] args) {
        wordsOfOneKind();
        cutsTowardsZero();
        numbersFromZeroOn();
        sets();
        noneAndRefusals();
        billion();
        clauses();
        wordsOfOneLetter();
        whatADebtorIs();
        weeksFromZero();
        accepted();
        goesOut();
        settlesFromInOrOut();
        lendsIfBothAreIn();
        suesOneWhoIsIn();
        aWeekInItsOrder();
        arrestedAreCounted();
        cheapestOfAll();
        chainsOneByOne();
        nets();
        theDrawOfN();
        undoneOfEachKind();
        Check.end();
    }

    private static Counted allIn(String text) {
        Counted x = Check.told(text);
        int debtors = x.told(4);
        for (int d = 0; d < debtors; d++) x.goIn(d);
        return x;
    }

    // ---- Terms

    /** A word in capitals means the same in every call that uses it. */
    private static void wordsOfOneKind() {
        Check.sentence("Words in capitals are told where they come first.");
        Counted x = Check.told(Check.TOWN);
        for (int w = 0; w < 12; w++) {
            for (int d = 0; d < 4; d++) {
                int accepts = x.accepts(x.debtor(d, 0), x.told(7));
                Check.due("SETTLE by what is ACCEPTED", x.debtor(d, 5), (x.debtor(d, 1) * accepts + 99) / 100);
            }
            for (int c = 0; c < 2; c++) {
                int accepts = x.accepts(c, x.told(7));
                Check.due("COMPOSITION by what is ACCEPTED", x.composition(accepts, 0) >> c & 1, 1);
                Check.due("and by no less", x.composition(accepts - 1, 0) >> c & 1, 0);
            }
            x.week(1);
        }
    }

    private static void cutsTowardsZero() {
        Check.sentence("All numbers are whole; / cuts towards 0.");
        for (int q = 0; q <= 100; q++) {
            Counted x = new Counted();
            long odds = 1000000000L;
            for (int n = 0; n <= 60; n++) {
                Check.due("quiet for " + n + " by " + q, x.quiet(n, q), odds);
                odds = Math.floorDiv(odds * (100 - q), 100L);
            }
        }
    }

    private static void numbersFromZeroOn() {
        Check.sentence("What has a number has it from 0 on, as it comes.");
        Counted x = Check.told("y0 6 0;c11 0;d0 101 1;p1 2 3;c12 0;d1 102 2;c13 0;c14 0;d3 103 3;d2 104 4;p4 5 6;p7 8 9;");
        for (int c = 0; c < 4; c++) Check.due("creditor " + c, x.accepts(c, 0), 11 + c);
        Check.due("no fifth one", x.accepts(4, 0), UNKNOWN);
        int[] of = {0, 1, 3, 2};
        for (int d = 0; d < 4; d++) {
            Check.due("creditor of debtor " + d, x.debtor(d, 0), of[d]);
            Check.due("sum of debtor " + d, x.debtor(d, 1), 101 + d);
            Check.due("what comes in for debtor " + d, x.debtor(d, 2), 1 + d);
        }
        for (int p = 0; p < 3; p++) {
            for (int what = 0; what <= 2; what++) Check.due("place " + p, x.place(p, what), 1 + 3 * p + what);
        }
        x.write(0, 1);
        Check.due("the first entry is 0", x.judge(), 0);
        x.goIn(0);
        x.write(0, 1);
        x.write(1, 1);
        Check.due("the third entry is 2", x.judge(), 2);
        Check.feed(x, "x");
        x.yard();
        Check.due("the first letter is 0", x.fault(), 0);
    }

    private static void sets() {
        Check.sentence("A SET is a whole number, bit k for k (of DEBTORS, if nothing else is told).");
        String six = "d0 10 10;d0 10 10;d0 10 10;d0 10 10;d0 10 10;d0 10 10;";
        for (int k = 0; k < 6; k++) {
            int bit = 1 << k;
            Counted in = Check.told("y0 1 0;c100 0;" + six);
            Check.due("in", in.goIn(k), bit);
            Check.due("in, told", in.told(8), bit);
            Check.due("safe", in.told(13), bit);
            Check.due("out are all others", in.told(9), 63 - bit);
            Counted out = allIn("y0 6 1;c100 0;" + six);
            Check.due("out", out.goOut(k), bit);
            Check.due("out, told", out.told(9), bit);
            Check.due("next", out.told(12), bit);
            out.week(1);
            Check.due("in gaol", out.told(11), bit);
            Counted free = Check.told("y0 1 0;c100 0;" + six);
            free.week(1);
            free.settle(k);
            Check.due("free", free.told(10), bit);
        }
        Counted creditors = Check.told("y0 1 0;c10 0;c20 0;c30 0;c40 0;");
        for (int c = 0; c < 4; c++) Check.due("a set of creditors", creditors.composition(10 * c + 10, 0), (2 << c) - 1);
    }

    private static void noneAndRefusals() {
        Check.sentence("NONE is -1.");
        Counted x = new Counted();
        Check.due("no fault", x.fault(), -1);
        Check.due("nothing is wrong", x.judge(), -1);
        x.hat(60, true);
        Check.due("nothing fits", x.over(1), -1);
        Check.due("nowhere to look", x.look(), -1);
        Check.due("the constant", PalaceYard.NONE, -1);
        Check.sentence("They are far below all that is counted: -1000000001 and on.");
        Check.due("UNKNOWN", x.accepts(0, 0), -1000000001);
        Check.due("OUTSIDE", x.told(99), -1000000002);
        Check.due("NOT", x.undo(), -1000000003);
        for (int i = 1; i < 6; i++) x.hat(0, true);
        Check.due("FULL", x.hat(0, true), -1000000004);
    }

    private static void billion() {
        Check.sentence("BILLION is 1000000000.");
        Counted x = new Counted();
        Check.due("all is quiet", x.quiet(60, 0), 1000000000);
        Check.due("a hundredth less", x.quiet(1, 1), 990000000);
    }

    // ---- 1 THE YARD

    private static void clauses() {
        Check.sentence("THE YARD is told in a text (240 letters at most): clauses: 'y' L R B ';'");
        String[] clauses = {"c80 10;", "d0 100 30;", "p3 4 10;"};
        int[][] orders = {{0, 1, 2}, {0, 2, 1}, {2, 0, 1}};
        String want = Check.allOf(Check.told("y7 2 1;" + clauses[0] + clauses[1] + clauses[2]));
        for (int[] order : orders) {
            String text = "y7 2 1;";
            for (int k : order) text += clauses[k];
            Check.same("in any order behind the first: " + text, Check.allOf(Check.told(text)), want);
        }
    }

    private static void wordsOfOneLetter() {
        Check.sentence("a word is one letter");
        String start = "y0 1 0;";
        String[] longer = {"yy0 1 0;", "yard0 1 0;", "y0 1 0;;", start + "cc1 0;", start + "creditor1 0;", start + "c1 0;dd0 1 0;",
            start + "pp0 0 0;", start + "place 0 0 0;"};
        int[] at = {1, 1, 7, 8, 8, 13, 8, 8};
        for (int i = 0; i < longer.length; i++) {
            Counted x = new Counted();
            Check.feed(x, longer[i]);
            Check.due("yard of " + longer[i], x.yard(), -11);
            Check.due("fault of " + longer[i], x.fault(), at[i]);
        }
    }

    // ---- 2 DEBTORS

    private static void whatADebtorIs() {
        Check.sentence("A DEBTOR is 0 OUT (at first), 1 IN, 2 in the town's GAOL, 3 FREE, 4 in the BAILIE's gaol.");
        Counted x = Check.told("y0 3 1;c100 0;d0 9 50;d0 9 0;d0 9 0;d0 8 50;d0 999 0;");
        for (int d = 0; d < 5; d++) Check.due("at first", x.debtor(d, 3), 0);
        for (int d = 0; d < 3; d++) x.goIn(d);
        Check.due("in", x.debtor(1, 3), 1);
        Check.due("out still", x.debtor(3, 3), 0);
        x.week(1);
        Check.due("in the town's gaol", x.debtor(4, 3), 2);
        x.settle(3);
        Check.due("free", x.debtor(3, 3), 3);
        x.lend(0, 1, 5);
        x.lend(1, 2, 1);
        x.sue(0, 1);
        Check.due("in the bailie's gaol", x.debtor(1, 3), 4);
        x.goOut(2);
        Check.due("out again", x.debtor(2, 3), 0);
    }

    private static void weeksFromZero() {
        Check.sentence("WEEKS are counted from 0.");
        Counted x = Check.told(Check.TOWN);
        Check.due("at first", x.told(7), 0);
        Check.due("the first week", x.week(1), 1);
        Check.due("it is told", x.told(7), 1);
        Check.due("by draws, too", x.drift(2) >= 0 ? x.told(7) : NONE, 3);
    }

    private static void accepted() {
        Check.sentence("ACCEPTS: what a CREDITOR accepts in WEEK n: of a hundred P less K times n, but the lesser of P and 5 at least.");
        for (int p = 1; p <= 100; p++) {
            Counted x = Check.told("y0 1 0;c" + p + " 0;c" + p + " 1;c" + p + " 7;c" + p + " 20;");
            int[] less = {0, 1, 7, 20};
            for (int c = 0; c < 4; c++) {
                for (int n = 0; n <= 100; n += n < 16 ? 1 : 12) {
                    int due = p - less[c] * n;
                    int least = p < 5 ? p : 5;
                    Check.due("P " + p + ", K " + less[c] + ", week " + n, x.accepts(c, n), due < least ? least : due);
                }
            }
        }
    }

    private static void goesOut() {
        Check.sentence("OUT: one who is IN.");
        Counted x = Check.told("y0 3 1;c100 0;d0 9 50;d0 9 0;d0 9 0;d0 8 50;d0 999 0;d0 1 0;");
        for (int d = 0; d < 3; d++) x.goIn(d);
        x.week(1);
        x.settle(3);
        x.lend(0, 1, 5);
        x.lend(1, 2, 1);
        x.sue(0, 1);
        int[] is = {1, 4, 1, 3, 2, 0};
        for (int d = 0; d < 6; d++) {
            Check.due("what he is", x.debtor(d, 3), is[d]);
            int cash = x.debtor(d, 4);
            Check.due("out " + d, x.goOut(d) >= 0 ? 1 : 0, is[d] == 1 ? 1 : 0);
            Check.due("what he is then", x.debtor(d, 3), is[d] == 1 ? 0 : is[d]);
            Check.due("his cash stays", x.debtor(d, 4), cash);
        }
    }

    private static void settlesFromInOrOut() {
        Check.sentence("SETTLES: one who is IN or OUT pays S times what his CREDITOR ACCEPTS now / 100 (cut, 1 more, if that is not whole), "
                + "if he has as much CASH: FREE.");
        int[][] rows = {{100, 50, 50}, {101, 50, 51}, {99, 50, 50}, {1, 1, 1}, {999, 1, 10}, {33, 3, 1}, {34, 3, 2}};
        for (int[] row : rows) {
            for (int in = 0; in <= 1; in++) {
                Counted x = Check.told("y0 1 0;c" + row[1] + " 0;d0 " + row[0] + " 90;");
                if (in == 1) x.goIn(0);
                Check.due("without cash", x.settle(0), NOT);
                x.week(1);
                Check.due("what he paid", x.settle(0), row[2]);
                Check.due("what is left", x.debtor(0, 4), 10090 - row[2]);
                Check.due("free", x.debtor(0, 3), 3);
                Check.due("once", x.settle(0), NOT);
            }
        }
        Counted now = Check.told("y0 1 0;c50 20;d0 100 45;");
        now.week(1);
        Check.due("what is accepted now", now.settle(0), 30);
    }

    private static void lendsIfBothAreIn() {
        Check.sentence("LENDS: of two who are IN one gives a sum of his CASH (that he has) to the other one: OWED INSIDE");
        for (int ins = 0; ins < 4; ins++) {
            Counted x = Check.told("y0 2 0;c100 0;d0 9 50;d0 9 50;");
            x.week(1);
            if ((ins & 1) != 0) x.goIn(0);
            if ((ins & 2) != 0) x.goIn(1);
            Check.due("in are " + ins, x.lend(0, 1, 20), ins == 3 ? 20 : NOT);
            Check.due("he gave", x.debtor(0, 4), ins == 3 ? 10030 : 10050);
            Check.due("he got", x.debtor(1, 4), ins == 3 ? 10070 : 10050);
            Check.due("is owed", x.owes(1, 0), ins == 3 ? 20 : 0);
        }
    }

    private static void suesOneWhoIsIn() {
        Check.sentence("SUES: who is OWED INSIDE by one who is IN: that one pays");
        Counted x = allIn("y0 2 0;c100 0;d0 9 50;d0 999 50;");
        x.week(1);
        x.lend(0, 1, 20);
        x.goOut(1);
        Check.due("he is out", x.sue(0, 1), NOT);
        x.goIn(1);
        x.goOut(0);
        Check.due("he is in, the other one is not", x.sue(0, 1), 20);
        Check.due("he paid", x.debtor(1, 4), 10050);
        Check.due("to the other one", x.debtor(0, 4), 10050);
        Check.due("nothing is owed", x.owes(1, 0), 0);
        Check.due("not the other way about", x.sue(1, 0), NOT);
    }

    private static void aWeekInItsOrder() {
        Check.sentence("A WEEK: H comes in for all who are IN or OUT; who is IN pays L. Then of those who are OUT and owe, the B with the "
                + "greatest S (of like ones the least) are ARRESTED: GAOL. Then who is IN and has less than 0 CASH is put OUT.");
        Counted x = Check.told("y20 2 2;c100 0;d0 500 5;d0 400 25;d0 300 7;d0 200 8;d0 200 9;");
        x.goIn(0);
        x.goIn(1);
        x.week(1);
        int[] cash = {9985, 10005, 10007, 10008, 10009};
        int[] is = {0, 1, 2, 2, 0};
        for (int d = 0; d < 5; d++) {
            Check.due("cash of " + d, x.debtor(d, 4), cash[d]);
            Check.due("what " + d + " is", x.debtor(d, 3), is[d]);
        }
        x.week(1);
        int[] cashThen = {9990, 10010, 10007, 10008, 10018};
        int[] isThen = {2, 1, 2, 2, 2};
        for (int d = 0; d < 5; d++) {
            Check.due("cash of " + d + " then", x.debtor(d, 4), cashThen[d]);
            Check.due("what " + d + " is then", x.debtor(d, 3), isThen[d]);
        }
        Check.due("lodging of two, of one", x.told(15), 60);
    }

    private static void arrestedAreCounted() {
        Check.sentence("How many were ARRESTED is counted, what was paid for lodging (999999 at most), too.");
        Counted x = Check.told("y3 1 2;c100 0;d0 5 9;d0 4 9;d0 3 9;d0 2 9;d0 1 9;");
        x.goIn(0);
        int[] arrested = {2, 4, 4, 4};
        for (int w = 0; w < 4; w++) {
            x.week(1);
            Check.due("arrested behind " + w, x.told(14), arrested[w]);
            Check.due("lodging behind " + w, x.told(15), 3 * w + 3);
        }
        x.goOut(0);
        x.week(1);
        Check.due("the last one", x.told(14), 5);
        Check.due("no more is paid", x.told(15), 12);
    }

    // ---- 3 TRIED

    private static void cheapestOfAll() {
        Check.sentence("CHEAPEST: of 0 .. 60 WEEKS, if he can SETTLE then, that by which lodging (for WEEKS IN) and what he pays are least "
                + "together; of like ones the least: how many WEEKS; how much; NONE.");
        int[][] rows = {{0, 900, 30}, {7, 900, 30}, {7, 300, 60}, {30, 999, 40}, {99, 1, 99}, {1, 100, 0}, {50, 50, 99}};
        for (int[] row : rows) {
            for (int in = 0; in <= 1; in++) {
                Counted x = Check.told("y" + row[0] + " 1 0;c90 1;d0 " + row[1] + " " + row[2] + ";");
                if (in == 1) x.goIn(0);
                int[] due = cheapest(row, in);
                Check.due("how many weeks", x.cheapest(0, 0), due[0]);
                Check.due("how much", x.cheapest(0, 1), due[1]);
            }
        }
    }

    private static int[] cheapest(int[] row, int in) {
        int[] best = {NONE, NONE};
        for (int w = 60; w >= 0; w--) {
            int accepts = Math.max(5, 90 - w);
            int cost = row[1] * accepts / 100 + (row[1] * accepts % 100 == 0 ? 0 : 1);
            int together = cost + in * row[0] * w;
            if (w * (row[2] - in * row[0]) < cost || best[0] != NONE && together > best[1]) continue;
            best[0] = w;
            best[1] = together;
        }
        return best;
    }

    private static void chainsOneByOne() {
        Check.sentence("CHAIN: a DEBTOR, the one to whom he OWES most INSIDE (of like ones the least), the one to whom that one does, and so on");
        Counted x = allIn("y0 5 0;c100 0;d0 9 90;d0 9 90;d0 9 90;d0 9 90;d0 9 90;");
        x.week(1);
        x.lend(3, 0, 5);
        x.lend(4, 0, 5);
        x.lend(2, 0, 4);
        x.lend(1, 3, 1);
        x.lend(2, 3, 2);
        x.lend(4, 2, 1);
        int[] many = {4, 1, 2, 3, 1};
        int[] last = {4, 1, 4, 4, 4};
        for (int d = 0; d < 5; d++) {
            Check.due("how many from " + d, x.chain(d, 0), many[d]);
            Check.due("the last from " + d, x.chain(d, 1), last[d]);
        }
    }

    private static void nets() {
        Check.sentence("NET of a DEBTOR: what he is OWED INSIDE by all less what he OWES, and 10000.");
        Counted x = allIn("y0 4 0;c100 0;d0 9 90;d0 9 90;d0 9 90;d0 9 90;");
        x.week(1);
        x.lend(0, 1, 11);
        x.lend(0, 2, 22);
        x.lend(3, 0, 5);
        x.lend(1, 2, 3);
        int[] due = {10028, 9992, 9975, 10005};
        for (int d = 0; d < 4; d++) {
            Check.due("net of " + d, x.debtor(d, 6), due[d]);
            int net = 10000;
            for (int e = 0; e < 4; e++) if (e != d) net += x.owes(e, d) - x.owes(d, e);
            Check.due("by all that is owed", x.debtor(d, 6), net);
        }
    }

    // ---- 3 BY DRAWS

    private static int draw(int n) {
        seed = (seed * 1103515245L + 12345L) % 2147483648L;
        return (int) (seed / 65536 % n);
    }

    /** Who goes IN first tells what was drawn of n: only then are ROOMS taken. */
    private static void theDrawOfN() {
        Check.sentence("BY DRAWS: THE SEED (0 at first: each DRAW it becomes it times 1103515245 and 12345, left over by 2 to the 31; the DRAW "
                + "of n is it / 65536, left over by n)");
        int entered = 0;
        for (int many = 1; many <= 6; many++) {
            Counted x = Check.told("y0 6 0;c100 0;" + "d0 999 0;".repeat(many));
            Check.due("0 at first", x.seed(0), 0);
            for (int v = 0; v < 40; v++) {
                seed = 53687091L * v;
                x.seed((int) seed);
                int before = x.told(8);
                x.drift(1);
                int who = draw(many);
                int what = draw(5);
                int due = what == 0 ? before | 1 << who : what == 1 ? before & ~(1 << who) : before;
                Check.due("in, from " + 53687091L * v + " of " + many, x.told(8), due);
                if (due != before) entered++;
            }
        }
        Check.due("some went in, out", entered > 40 ? 1 : 0, 1);
    }

    // ---- 3 UNDONE

    private static void undoneOfEachKind() {
        Check.sentence("UNDONE: the latest of week(), goIn(), goOut(), settle(), lend(), sue(), drift() that was not refused");
        for (int kind = 0; kind < 7; kind++) {
            Counted x = Check.told("y1 4 0;c100 1;d0 20 50;d0 999 50;d0 999 9;d0 30 9;");
            for (int d = 0; d < 3; d++) x.goIn(d);
            x.week(1);
            x.lend(0, 1, 9);
            x.keep(0);
            x.goOut(1);
            x.goIn(1);
            String ahead = Check.lifeOf(x);
            Check.due("it is not refused: " + kind, doOne(x, kind) >= 0 ? 1 : 0, 1);
            Check.due("it can be undone: " + kind, x.told(20), 3);
            Check.due("it did something: " + kind, Check.lifeOf(x).equals(ahead) ? 1 : 0, 0);
            refuseSome(x);
            askOnly(x);
            Check.due("the latest is undone: " + kind, x.undo(), 2);
            Check.same("all is as ahead of it: " + kind, Check.lifeOf(x), ahead);
        }
    }

    private static int doOne(Counted x, int kind) {
        switch (kind) {
            case 0: return x.week(3);
            case 1: return x.goIn(3);
            case 2: return x.goOut(2);
            case 3: return x.settle(0);
            case 4: return x.lend(1, 2, 4);
            case 5: return x.sue(0, 1);
            default: return x.drift(4);
        }
    }

    private static void refuseSome(Counted x) {
        Check.due("refused week", x.week(0), OUTSIDE);
        Check.due("refused goIn", x.goIn(4), UNKNOWN);
        Check.due("refused goOut", x.goOut(4), UNKNOWN);
        Check.due("refused settle", x.settle(2), NOT);
        Check.due("refused lend", x.lend(0, 0, 1), UNKNOWN);
        Check.due("refused sue", x.sue(1, 0), NOT);
        Check.due("refused drift", x.drift(61), OUTSIDE);
    }

    /** None of these is done: none can be undone. */
    private static void askOnly(Counted x) {
        int before = x.told(20);
        x.soon(0);
        x.cheapest(0, 1);
        x.outing(9, 0);
        x.composition(9, 0);
        x.year(0, 9);
        x.chain(0, 0);
        x.quiet(9, 9);
        x.hat(9, true);
        x.over(0);
        x.look();
        x.write(0, 0);
        x.judge();
        x.tear();
        x.seed(4);
        x.feed('y');
        Check.due("nothing more can be undone", x.told(20), before);
    }
}
