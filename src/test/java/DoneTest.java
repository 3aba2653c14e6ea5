/** Promises 10 to 17: what is done, and undone. */
public final class DoneTest {
    private static final int UNKNOWN = Check.UNKNOWN, OUTSIDE = Check.OUTSIDE, NOT = Check.NOT, FULL = Check.FULL;

    public static void main(String[] args) {
        week();
        weekRefused();
        weekBounds();
        lodgingBound();
        goIn();
        goOut();
        settle();
        lend();
        lendRefused();
        lendBounds();
        sue();
        sueToGaol();
        sueFromAnywhere();
        drift();
        driftByHand();
        driftRefused();
        undo();
        undoSixteen();
        undoEveryKind();
        refusedIsNotUndone();
        Check.end();
    }

    private static void week() {
        Counted x = Check.told("y10 3 1;c100 0;d0 9 30;d0 9 5;d0 8 7;d0 7 1;");
        x.goIn(0);
        x.goIn(1);
        Check.due("10 a week", x.week(1), 1);
        Check.due("10 in: comes in, pays", x.debtor(0, 4), 10020);
        Check.due("10 in, too poor", x.debtor(1, 4), 9995);
        Check.due("10 is put out behind the arrests", x.debtor(1, 3), 0);
        Check.due("10 out: comes in", x.debtor(3, 4), 10001);
        Check.due("10 arrested", x.debtor(2, 3), 2);
        Check.due("10 the arrested got his part", x.debtor(2, 4), 10007);
        Check.due("10 lodging is counted", x.told(15), 20);
        Check.due("10 two more", x.week(2), 3);
        Check.due("10 next the one put out", x.debtor(1, 3), 2);
        Check.due("10 then the last one", x.debtor(3, 3), 2);
        Check.due("10 arrested all", x.told(14), 3);
        Check.due("10 nothing comes in to gaol", x.debtor(2, 4), 10007);
        Check.due("10 nothing is paid in gaol", x.debtor(1, 4), 10000);
        Check.due("10 lodging", x.told(15), 40);
        Check.due("10 the most", x.week(60), 63);
    }

    private static void weekRefused() {
        Counted x = new Counted();
        Check.due("10 outside ahead of not", x.week(0), OUTSIDE);
        Check.due("10 not", x.week(60), NOT);
        x = Check.told("y0 1 0;");
        Check.due("10 outside", x.week(0), OUTSIDE);
        Check.due("10 outside above", x.week(61), OUTSIDE);
        for (int i = 1; i <= 150; i++) Check.due("10 weeks", x.week(60), 60 * i);
        Check.due("10 at 9000", x.week(1), 9001);
        Check.due("10 full", x.week(1), FULL);
        Check.due("10 outside ahead of full", x.week(61), OUTSIDE);
        Check.due("16 full", x.drift(1), FULL);
        Check.due("10 nothing is changed", x.told(7), 9001);
        x.undo();
        Check.due("10 at 9000 again", x.week(60), 9060);
    }

    private static void weekBounds() {
        Counted x = Check.told("y10 2 0;c100 0;d0 1 99;d0 1 99;");
        x.goIn(0);
        x.week(60);
        x.week(60);
        x.week(60);
        Check.due("10 cash is bounded, then lodging is paid", x.debtor(0, 4), 19989);
        Check.due("10 cash is bounded", x.debtor(1, 4), 19999);
        Check.due("22 bounded as told", x.year(1, 60), 19989);
        Check.due("22 bounded at once", x.year(1, 1), 19989);
        Check.due("22 no week", x.year(1, 0), 19999);
    }

    private static void lodgingBound() {
        Counted x = Check.told("y99 6 0;c100 0;d0 1 99;d0 1 99;d0 1 99;d0 1 99;d0 1 99;d0 1 99;");
        for (int d = 0; d < 6; d++) x.goIn(d);
        for (int i = 0; i < 28; i++) x.week(60);
        Check.due("10 lodging", x.told(15), 594 * 1680);
        x.week(3);
        Check.due("10 lodging just below", x.told(15), 594 * 1683);
        x.week(1);
        Check.due("10 lodging at most", x.told(15), 999999);
        x.week(60);
        Check.due("10 lodging stays", x.told(15), 999999);
        Check.due("10 all are in", x.told(8), 63);
    }

    private static void goIn() {
        Counted x = Check.told(Check.TOWN);
        Check.due("11 in", x.goIn(1), 2);
        Check.due("11 in already", x.goIn(1), NOT);
        Check.due("11 in, too", x.goIn(3), 10);
        Check.due("11 no room", x.goIn(0), NOT);
        Check.due("11 unknown", x.goIn(4), UNKNOWN);
        Check.due("11 unknown below", x.goIn(-1), UNKNOWN);
        x.goOut(1);
        Check.due("11 a room again", x.goIn(0), 9);
        x.week(1);
        x.goOut(3);
        Check.due("11 one in gaol", x.goIn(2), NOT);
    }

    private static void goOut() {
        Counted x = Check.told(Check.TOWN);
        Check.due("12 out already", x.goOut(1), NOT);
        x.goIn(1);
        x.goIn(0);
        Check.due("12 out", x.goOut(1), 14);
        Check.due("12 all out", x.goOut(0), 15);
        Check.due("12 unknown", x.goOut(4), UNKNOWN);
        Check.due("12 unknown below", x.goOut(-1), UNKNOWN);
        x.week(1);
        Check.due("12 one in gaol", x.goOut(2), NOT);
    }

    private static void settle() {
        Counted x = Check.told("y0 2 1;c33 1;c1 0;d0 10 4;d1 100 1;d0 999 0;d0 10 3;d0 10 9;");
        Check.due("13 no cash", x.settle(1), NOT);
        x.goIn(0);
        x.week(1);
        Check.due("13 the least cash, out", x.settle(1), 1);
        Check.due("13 free", x.debtor(1, 3), 3);
        Check.due("13 paid", x.debtor(1, 4), 10000);
        Check.due("13 free already", x.settle(1), NOT);
        Check.due("13 1 more, if not whole", x.settle(3), NOT);
        Check.due("13 in", x.settle(0), 4);
        Check.due("13 in gaol", x.settle(2), NOT);
        Check.due("13 with more cash", x.settle(4), 4);
        Check.due("13 what is left", x.debtor(4, 4), 10005);
        Check.due("13 unknown", x.settle(5), UNKNOWN);
        Check.due("13 unknown below", x.settle(-1), UNKNOWN);
        x.week(1);
        Check.due("13 nothing comes in for the free", x.debtor(4, 4), 10005);
        Check.due("13 the free are not arrested", x.told(10), 1 + 2 + 16);
    }

    private static Counted rich() {
        Counted x = Check.told(Check.RICH);
        for (int d = 0; d < 5; d++) x.goIn(d);
        x.week(1);
        return x;
    }

    private static void lend() {
        Counted x = rich();
        Check.due("14 lends", x.lend(0, 1, 40), 40);
        Check.due("14 lends more", x.lend(0, 1, 20), 60);
        Check.due("14 gave", x.debtor(0, 4), 10039);
        Check.due("14 got", x.debtor(1, 4), 10159);
        Check.due("14 less what the other way about is owed", x.lend(1, 0, 50), 0);
        Check.due("14 left", x.owes(1, 0), 10);
        Check.due("14 all", x.lend(1, 0, 10), 0);
        Check.due("14 even", x.owes(1, 0), 0);
        Check.due("14 the other way about now", x.lend(1, 0, 7), 7);
        Check.due("14 owes", x.owes(0, 1), 7);
        Check.due("14 beyond the other way about", x.lend(0, 1, 10), 3);
    }

    private static void lendRefused() {
        Counted x = rich();
        Check.due("14 unknown", x.lend(6, 0, 1), UNKNOWN);
        Check.due("14 unknown other", x.lend(0, 6, 1), UNKNOWN);
        Check.due("14 unknown below", x.lend(-1, 0, 1), UNKNOWN);
        Check.due("14 unknown other below", x.lend(0, -1, 1), UNKNOWN);
        Check.due("14 one twice", x.lend(0, 0, 1), UNKNOWN);
        Check.due("14 one twice ahead of outside", x.lend(0, 0, 0), UNKNOWN);
        Check.due("14 outside", x.lend(0, 1, 0), OUTSIDE);
        Check.due("14 outside above", x.lend(0, 1, 1000), OUTSIDE);
        Check.due("14 outside ahead of not", x.lend(0, 5, 1000), OUTSIDE);
        Check.due("14 the other is out", x.lend(0, 5, 1), NOT);
        Check.due("14 he is out", x.lend(5, 0, 1), NOT);
        Check.due("14 less cash", x.lend(0, 1, 100), NOT);
        Check.due("14 no cash", x.lend(3, 0, 1), NOT);
        Check.due("14 all his cash", x.lend(0, 1, 99), 99);
        Check.due("14 nothing is left", x.debtor(0, 4), 10000);
    }

    private static void lendBounds() {
        Counted x = rich();
        x.week(60);
        x.week(60);
        Check.due("14 cash", x.debtor(0, 4), 19999);
        for (int i = 1; i <= 10; i++) Check.due("14 much", x.lend(0, 1, 999), 999 * i);
        Check.due("14 got no more than can be had", x.debtor(1, 4), 19999);
        x.week(60);
        Check.due("14 would be above", x.lend(0, 1, 10), FULL);
        Check.due("14 not ahead of full", x.lend(5, 1, 999), NOT);
        Check.due("14 at most", x.lend(0, 1, 9), 9999);
        Check.due("14 full", x.lend(0, 1, 1), FULL);
        Check.due("14 the other way about is fine", x.lend(1, 0, 999), 0);
        Check.due("14 left", x.owes(1, 0), 9000);
        Check.due("14 full again", x.lend(0, 1, 1), 9001);
        Check.due("14 to another", x.lend(0, 2, 999), 999);
        Check.due("7 net", x.debtor(1, 6), 999);
    }

    private static void sue() {
        Counted x = rich();
        x.lend(0, 3, 40);
        Check.due("15 unknown", x.sue(6, 0), UNKNOWN);
        Check.due("15 unknown other", x.sue(0, 6), UNKNOWN);
        Check.due("15 unknown below", x.sue(-1, 0), UNKNOWN);
        Check.due("15 unknown other below", x.sue(0, -1), UNKNOWN);
        Check.due("15 one twice", x.sue(0, 0), UNKNOWN);
        Check.due("15 owes him nothing", x.sue(1, 3), NOT);
        Check.due("15 the other way about", x.sue(3, 0), NOT);
        Check.due("15 pays all", x.sue(0, 3), 40);
        Check.due("15 is in still", x.debtor(3, 3), 1);
        Check.due("15 got it", x.debtor(0, 4), 10099);
        Check.due("15 paid it", x.debtor(3, 4), 10000);
        Check.due("15 owes nothing now", x.owes(3, 0), 0);
        Check.due("15 no more", x.sue(0, 3), NOT);
        Check.due("14 the least", x.lend(0, 4, 1), 1);
        Check.due("15 the least", x.sue(0, 4), 1);
    }

    private static void sueToGaol() {
        Counted x = rich();
        x.lend(0, 3, 40);
        x.lend(3, 4, 15);
        Check.due("15 pays what he has", x.sue(0, 3), 25);
        Check.due("15 in the bailie's gaol", x.debtor(3, 3), 4);
        Check.due("15 owes the rest", x.owes(3, 0), 15);
        Check.due("15 has nothing", x.debtor(3, 4), 10000);
        Check.due("15 in any gaol", x.told(11), 8);
        Check.due("15 not in", x.sue(0, 3), NOT);
        Check.due("15 one in gaol sues", x.sue(3, 4), 15);
        Check.due("15 he gets it", x.debtor(3, 4), 10015);
        Check.due("15 is in still", x.debtor(4, 3), 1);
        x.week(1);
        Check.due("15 stays there", x.debtor(3, 3), 4);
        Check.due("15 goes not in", x.goIn(3), NOT);
        Check.due("15 lends not", x.lend(0, 3, 1), NOT);
        Counted poor = Check.told("y5 2 0;c100 0;d0 1 20;d0 1 5;");
        poor.goIn(0);
        poor.goIn(1);
        poor.week(1);
        poor.lend(0, 1, 10);
        poor.goOut(1);
        poor.goIn(1);
        Check.due("15 pays out of what he got", poor.sue(0, 1), 10);
    }

    private static void sueFromAnywhere() {
        Counted x = Check.told("y50 3 0;c100 0;d0 1 99;d0 1 0;d0 1 99;");
        x.goIn(0);
        x.goIn(2);
        x.week(1);
        x.goIn(1);
        x.lend(0, 1, 30);
        x.week(1);
        Check.due("15 was put out", x.debtor(1, 4), 9980);
        Check.due("15 is out", x.sue(0, 1), NOT);
        x.goIn(1);
        x.goOut(0);
        x.settle(0);
        Check.due("15 one who is free sues one below 0", x.sue(0, 1), 0);
        Check.due("15 to gaol", x.debtor(1, 3), 4);
        Check.due("15 cash stays below 0", x.debtor(1, 4), 9980);
        Check.due("15 owes all", x.owes(1, 0), 30);
        Counted full = Check.told(Check.RICH);
        full.goIn(0);
        full.goIn(3);
        full.week(1);
        full.lend(0, 3, 99);
        full.week(60);
        full.week(60);
        Check.due("15 pays", full.sue(0, 3), 99);
        Check.due("15 got no more than can be had", full.debtor(0, 4), 19999);
    }

    private static void drift() {
        Counted x = Check.told(Check.TOWN);
        x.goIn(1);
        x.goIn(0);
        x.seed(5);
        Check.due("16 arrested", x.drift(9), 3);
        Check.due("16 weeks", x.told(7), 9);
        Check.due("16 arrested in all", x.drift(60), 3);
        Counted one = Check.told("y0 1 0;c1 0;d0 1 0;");
        for (int v = 0; v < 20; v++) {
            seed = v;
            one.seed(v);
            one.drift(1);
            draw(1);
            if (draw(5) == 3) {
                draw(20);
                draw(1);
            }
            Check.due("16 draws of one debtor", one.seed(0), seed);
        }
        Counted empty = Check.told("y0 1 0;");
        empty.seed(9);
        Check.due("16 no debtors", empty.drift(60), 0);
        Check.due("16 no draws then", empty.seed(0), 9);
        Check.due("16 weeks pass", empty.told(7), 60);
    }

    private static final String DRIFTERS = "y1 4 0;c60 1;d0 900 40;d0 800 40;d0 700 40;d0 600 9;d0 9 1;";
    private static long seed = 0;

    private static void driftByHand() {
        int[] did = new int[5];
        for (int round = 0; round < 150; round++) {
            Counted x = Check.told(DRIFTERS);
            Counted by = Check.told(DRIFTERS);
            seed = 13000003L * round;
            x.seed((int) seed);
            for (int w = 0; w < 40; w++) {
                int what = weekByHand(by);
                if (what >= 0) did[what]++;
            }
            Check.due("16 drift", x.drift(40), by.told(14));
            Check.due("16 the seed", x.seed(0), seed);
            x.keep(1);
            Check.same("16 by hand, round " + round, Check.lifeOf(x), Check.lifeOf(by));
        }
        for (int what = 0; what < 5; what++) Check.due("16 was drawn and could be " + what, did[what] > 0 ? 1 : 0, 1);
    }

    /** A week BY DRAWS by the calls for what is done: which of them was not refused, -1 for none. */
    private static int weekByHand(Counted by) {
        int d = draw(5);
        int what = draw(5);
        if (what == 0) by.goIn(d);
        if (what == 1) by.goOut(d);
        if (what == 2) by.settle(d);
        if (what == 3) {
            int much = draw(20) + 1;
            by.lend(d, draw(5), much);
        }
        if (what == 4) {
            int e = 0;
            while (e < 5 && (e == d || by.owes(e, d) == 0)) e++;
            by.sue(d, e);
        }
        boolean did = by.told(20) > 0;
        by.week(1);
        by.keep(1);
        return did ? what : -1;
    }

    private static int draw(int n) {
        seed = next(seed);
        return (int) (seed / 65536 % n);
    }

    private static long next(long seed) {
        return (seed * 1103515245L + 12345L) % 2147483648L;
    }

    private static void driftRefused() {
        Counted x = new Counted();
        Check.due("16 outside ahead of not", x.drift(0), OUTSIDE);
        Check.due("16 not", x.drift(1), NOT);
        x = Check.told(Check.TOWN);
        Check.due("16 outside", x.drift(0), OUTSIDE);
        Check.due("16 outside above", x.drift(61), OUTSIDE);
        Check.due("16 no draw was made", x.seed(0), 0);
        for (int i = 0; i < 150; i++) x.drift(60);
        Check.due("16 at 9000", x.drift(60) >= 0 ? 1 : 0, 1);
        Check.due("16 full", x.drift(1), FULL);
        Check.due("10 full", x.week(1), FULL);
    }

    private static void undo() {
        Counted x = Check.told(Check.TOWN);
        Check.due("17 none", x.undo(), NOT);
        String first = Check.lifeOf(x);
        x.goIn(0);
        String second = Check.lifeOf(x);
        x.seed(3);
        x.drift(7);
        int seed = x.seed(3);
        x.seed(seed);
        Check.due("17 one more", x.undo(), 1);
        Check.same("17 as ahead of it", Check.lifeOf(x), second);
        Check.due("17 the seed stays", x.seed(0), seed);
        Check.due("17 no more", x.undo(), 0);
        Check.same("17 as at first", Check.lifeOf(x), first);
        Check.due("17 none now", x.undo(), NOT);
    }

    private static void undoSixteen() {
        Counted x = Check.told("y0 1 0;c1 0;d0 1 1;");
        for (int i = 1; i <= 16; i++) {
            x.week(1);
            Check.due("17 can be undone", x.told(20), i);
        }
        x.week(1);
        x.week(1);
        Check.due("17 16 at most", x.told(20), 16);
        for (int i = 15; i >= 0; i--) {
            Check.due("17 undone", x.undo(), i);
            Check.due("17 weeks", x.told(7), i + 2);
        }
        Check.due("17 the oldest are lost", x.undo(), NOT);
        Check.due("17 stays", x.told(7), 2);
        x.week(5);
        Check.due("17 once more", x.undo(), 0);
        Check.due("17 weeks again", x.told(7), 2);
    }

    private static void undoEveryKind() {
        for (int i = 0; i < 9; i++) {
            Counted x = Check.told("y1 3 1;c10 0;d0 90 30;d0 80 30;d0 70 30;d0 999 3;");
            for (int before = 0; before < i; before++) doEveryKind(x, before);
            String before = Check.lifeOf(x);
            doEveryKind(x, i);
            Check.due("17 was done " + i, x.told(20), i + 1);
            Check.due("17 undone " + i, x.undo(), i);
            Check.same("17 as ahead of " + i, Check.lifeOf(x), before);
            for (int left = i - 1; left >= 0; left--) Check.due("17 the others, too", x.undo(), left);
            Check.due("17 down to the first", x.told(7) + x.told(8), 0);
        }
    }

    private static void doEveryKind(Counted x, int which) {
        switch (which) {
            case 0: x.goIn(0); break;
            case 1: x.goIn(1); break;
            case 2: x.goIn(2); break;
            case 3: x.week(3); break;
            case 4: x.lend(0, 1, 20); break;
            case 5: x.goOut(2); break;
            case 6: x.settle(2); break;
            case 7: x.sue(0, 1); break;
            default: x.drift(9); break;
        }
    }

    private static void refusedIsNotUndone() {
        Counted x = Check.told(Check.TOWN);
        x.hat(7, false);
        x.write(1, 1);
        String before = Check.allOf(x);
        x.feed(-1);
        x.week(0);
        x.week(61);
        x.goIn(4);
        x.goOut(0);
        x.settle(0);
        x.lend(0, 1, 1);
        x.lend(0, 0, 1);
        x.sue(0, 1);
        x.drift(0);
        x.hat(61, true);
        x.write(0, 5);
        x.seed(-1);
        x.keep(2);
        x.goBack(0);
        Check.same("what is refused changes nothing", Check.allOf(x), before);
        Check.due("the seed stays", x.seed(0), 0);
    }
}
