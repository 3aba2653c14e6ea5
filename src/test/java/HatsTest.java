/** Promises 25 to 33: hats, the book, the seed, images. */
public final class HatsTest {
    private static final int NONE = Check.NONE, UNKNOWN = Check.UNKNOWN, OUTSIDE = Check.OUTSIDE;
    private static final int NOT = Check.NOT, FULL = Check.FULL;

    public static void main(String[] args) {
        hat();
        over();
        look();
        lookEverywhere();
        write();
        tear();
        judge();
        seed();
        keepAndGoBack();
        imagesRefused();
        Check.end();
    }

    private static void hat() {
        Counted x = new Counted();
        Check.due("25 outside", x.hat(61, true), OUTSIDE);
        Check.due("25 outside below", x.hat(-1, false), OUTSIDE);
        Check.due("25 the least", x.hat(0, true), 1);
        Check.due("25 the greatest", x.hat(60, false), 2);
        for (int i = 3; i <= 6; i++) Check.due("25 more", x.hat(i, true), i);
        Check.due("25 full", x.hat(50, true), FULL);
        Check.due("25 outside ahead of full", x.hat(61, true), OUTSIDE);
        Check.due("25 how many", x.told(18), 6);
        Check.due("25 the refused is not counted", x.over(1), 7);
    }

    private static void over() {
        Counted x = new Counted();
        Check.due("26 all", x.over(0), 61);
        Check.due("26 the least", x.over(1), 0);
        Check.due("26 the greatest", x.over(2), 60);
        x.hat(10, true);
        Check.due("26 above", x.over(1), 11);
        x.hat(20, false);
        Check.due("26 not above", x.over(2), 20);
        Check.due("26 how many", x.over(0), 10);
        x.hat(5, true);
        x.hat(25, false);
        Check.due("26 what is known already", x.over(0), 10);
        x.hat(20, true);
        Check.due("26 none", x.over(0), 0);
        Check.due("26 no least", x.over(1), NONE);
        Check.due("26 no greatest", x.over(2), NONE);
        Check.due("26 outside", x.over(3), OUTSIDE);
        Check.due("26 outside below", x.over(-1), OUTSIDE);
        x.hat(3, false);
        Check.due("26 none by far", x.over(0), 0);
        Counted top = new Counted();
        top.hat(60, true);
        Check.due("26 above the greatest", top.over(0), 0);
        Counted low = new Counted();
        low.hat(0, false);
        Check.due("26 not above the least", low.over(2), 0);
    }

    private static void look() {
        Counted x = new Counted();
        Check.due("27 at first", x.look(), 29);
        x.hat(29, true);
        Check.due("27 then", x.look(), 44);
        x.hat(31, false);
        Check.due("27 of two", x.look(), 30);
        x.hat(30, true);
        Check.due("27 of one", x.look(), NONE);
        x.hat(31, true);
        Check.due("27 of none", x.look(), NONE);
    }

    private static void lookEverywhere() {
        for (int low = 0; low <= 60; low++) {
            for (int high = low; high <= 60; high++) {
                Counted x = new Counted();
                if (low > 0) x.hat(low - 1, true);
                x.hat(high, false);
                Check.due("27 of " + low + " to " + high, x.look(), bestLine(low, high));
            }
        }
    }

    private static int bestLine(int low, int high) {
        int best = NONE;
        int least = high - low + 1;
        for (int d = 0; d <= 60; d++) {
            int above = 0;
            for (int x = low; x <= high; x++) if (x > d) above++;
            int alike = Math.max(above, high - low + 1 - above);
            if (alike < least) {
                least = alike;
                best = d;
            }
        }
        return best;
    }

    private static void write() {
        Counted x = Check.told(Check.TOWN);
        Check.due("28 unknown", x.write(4, 0), UNKNOWN);
        Check.due("28 unknown below", x.write(-1, 0), UNKNOWN);
        Check.due("28 unknown ahead of outside", x.write(4, 5), UNKNOWN);
        Check.due("28 outside", x.write(0, 5), OUTSIDE);
        Check.due("28 outside below", x.write(0, -1), OUTSIDE);
        for (int i = 1; i <= 15; i++) Check.due("28 entry", x.write(i % 4, i % 5), i);
        Check.due("28 full", x.write(0, 0), FULL);
        Check.due("28 outside ahead of full", x.write(0, 5), OUTSIDE);
        Check.due("28 entries", x.told(19), 15);
    }

    private static void tear() {
        Counted x = Check.told(Check.TOWN);
        Check.due("29 nothing", x.tear(), 0);
        x.hat(10, true);
        x.hat(50, false);
        x.write(0, 1);
        Check.due("29 both", x.tear(), 3);
        Check.due("29 no hats", x.told(18), 0);
        Check.due("29 no entries", x.told(19), 0);
        Check.due("29 all fits", x.over(0), 61);
        Check.due("29 nothing is wrong", x.judge(), NONE);
        Check.due("29 again", x.tear(), 0);
    }

    private static void judge() {
        Counted x = Check.told("y0 3 1;c1 0;d0 9 9;d0 8 9;d0 7 9;d0 6 0;d0 1 9;");
        Check.due("30 empty", x.judge(), NONE);
        x.write(4, 0);
        x.write(0, 0);
        x.write(1, 3);
        x.write(2, 4);
        x.write(3, 1);
        Check.due("30 the third entry", x.judge(), 2);
        x.goIn(1);
        x.goIn(2);
        x.goIn(3);
        x.week(1);
        Check.due("30 one was arrested", x.judge(), 1);
        x.undo();
        Check.due("30 now not", x.judge(), 2);
        x.tear();
        x.week(1);
        x.settle(1);
        x.lend(2, 3, 9);
        x.lend(3, 2, 3);
        x.sue(2, 3);
        x.write(0, 2);
        x.write(1, 3);
        x.write(2, 1);
        x.write(3, 1);
        x.write(4, 0);
        Check.due("30 all is so", x.judge(), NONE);
        x.write(4, 0);
        x.week(1);
        Check.due("30 the first of two", x.judge(), 4);
        x.tear();
        x.write(4, 0);
        x.write(3, 0);
        Check.due("30 the first entry", x.judge(), 0);
    }

    private static void seed() {
        Counted x = Check.told("y0 6 0;c1 0;d0 1 0;d0 1 0;");
        Check.due("31 at first", x.seed(2147483647), 0);
        Check.due("31 outside", x.seed(-1), OUTSIDE);
        Check.due("31 outside far", x.seed(Integer.MIN_VALUE), OUTSIDE);
        Check.due("31 the greatest", x.seed(7), 2147483647);
        Check.due("31 again", x.seed(0), 7);
        Check.due("31 and again", x.seed(2147483647), 0);
        x.drift(1);
        long seed = 2147483647L;
        for (int i = 0; i < 2; i++) seed = (seed * 1103515245L + 12345L) % 2147483648L;
        Check.due("31 two draws behind", x.seed(0), seed);
    }

    private static void keepAndGoBack() {
        Counted x = Check.told(Check.TOWN);
        x.seed(11);
        x.goIn(0);
        x.goIn(3);
        x.week(2);
        x.lend(0, 3, 7);
        Check.due("32 keeps", x.keep(0), 1);
        Check.due("32 nothing can be undone", x.undo(), NOT);
        String first = Check.lifeOf(x);
        x.drift(3);
        int seed = x.seed(0);
        x.seed(seed);
        Check.due("32 another", x.keep(1), 1);
        String second = Check.lifeOf(x);
        x.goIn(1);
        x.week(4);
        Check.due("33 goes back", x.goBack(0), 1);
        Check.due("33 nothing can be undone", x.undo(), NOT);
        Check.same("33 as it was", Check.lifeOf(x), first);
        Check.due("33 the seed, too", x.seed(99), 11);
        Check.due("33 goes to the other", x.goBack(1), 1);
        Check.same("33 as it was then", Check.lifeOf(x), second);
        Check.due("33 its seed", x.seed(99), seed);
        Check.due("33 once more", x.goBack(0), 1);
        Check.same("33 the image stays", Check.lifeOf(x), first);
        x.week(1);
        x.keep(0);
        x.undo();
        x.week(1);
        x.goBack(0);
        Check.due("32 becomes what is so", x.told(7), 3);
        x.hat(3, true);
        x.write(0, 0);
        x.feed(' ');
        x.goBack(1);
        Check.due("33 hats stay", x.told(18), 1);
        Check.due("33 the book stays", x.told(19), 1);
        Check.due("33 the text stays", x.told(6), 1);
    }

    private static void imagesRefused() {
        Counted x = Check.told(Check.TOWN);
        Check.due("32 unknown", x.keep(2), UNKNOWN);
        Check.due("32 unknown below", x.keep(-1), UNKNOWN);
        Check.due("33 unknown", x.goBack(2), UNKNOWN);
        Check.due("33 unknown below", x.goBack(-1), UNKNOWN);
        Check.due("33 not kept", x.goBack(0), NOT);
        x.keep(0);
        Check.due("33 the other was not kept", x.goBack(1), NOT);
        x.week(1);
        Check.due("33 refused", x.goBack(1), NOT);
        Check.due("33 it can be undone still", x.undo(), 0);
        Counted none = new Counted();
        Check.due("32 without a yard", none.keep(1), 1);
        Check.due("33 without a yard", none.goBack(1), 1);
    }
}
