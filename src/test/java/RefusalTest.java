/**
 * Each REFUSAL that a promise names: alone, two at once (the first in the document's order is answered), and that nothing
 * has changed behind it: a twin that was not asked the refused call is asked for all there is to know, too.
 */
public final class RefusalTest {
    private static final int UNKNOWN = Check.UNKNOWN, OUTSIDE = Check.OUTSIDE, NOT = Check.NOT, FULL = Check.FULL;
    private static final int LEAST = Integer.MIN_VALUE, MOST = Integer.MAX_VALUE;

    private interface Call {
        int of(Counted yard);
    }

    private interface World {
        Counted made();
    }

    public static void main(String[] args) {
        Check.sentence("REFUSALS, of several the first in this order: UNKNOWN (a CREDITOR, DEBTOR, PLACE, IMAGE that there is not; "
                + "bits of such; one twice, where two are asked), OUTSIDE (another number out of its bounds), NOT (not now, as told), FULL.");
        Check.sentence("What is refused changes nothing.");
        theWorldsAreAsTold();
        ofTheYard();
        ofWeeks();
        ofGoing();
        ofSettling();
        ofLending();
        ofSuing();
        ofTrying();
        ofHatsAndTheBook();
        ofDrawsAndImages();
        withoutAYard();
        whatOnlyAsks();
        Check.end();
    }

    // ---- worlds

    /** 0 and 1 are IN, 2 in the town's GAOL, 3 FREE, 4 in the BAILIE's gaol, 5 OUT; of everything there is something. */
    private static Counted busy() {
        Counted x = Check.told("y5 3 1;c50 5;c4 0;d0 100 90;d0 90 90;d0 999 9;d1 25 90;d0 80 9;d0 1 0;p3 4 10;");
        x.goIn(0);
        x.goIn(1);
        x.goIn(4);
        x.week(1);
        x.settle(3);
        x.lend(0, 4, 40);
        x.lend(4, 1, 20);
        x.sue(0, 4);
        x.seed(31);
        x.keep(0);
        x.seed(77);
        x.lend(0, 1, 30);
        x.goIn(5);
        x.goOut(5);
        x.hat(20, true);
        x.hat(50, false);
        x.write(0, 1);
        x.write(2, 2);
        x.write(3, 4);
        Check.feed(x, "x");
        x.yard();
        Check.feed(x, "y1 ");
        return x;
    }

    private static Counted withoutYard() {
        Counted x = new Counted();
        x.seed(78);
        x.hat(3, true);
        x.keep(1);
        Check.feed(x, "y1 2 3;c1 1;d0 1 1;");
        return x;
    }

    private static Counted fullText() {
        Counted x = Check.told("y1 2 0;c1 1;");
        Check.feed(x, "y1 2 3;c1 1;d0 1 1;" + " ".repeat(221));
        return x;
    }

    private static Counted noRoom() {
        Counted x = Check.told("y1 1 0;c1 1;d0 9 9;d0 9 9;d0 9 9;");
        x.goIn(1);
        return x;
    }

    private static Counted above9000() {
        Counted x = Check.told("y1 1 0;c1 1;d0 9 0;");
        for (int i = 0; i < 150; i++) x.week(60);
        x.week(1);
        return x;
    }

    /** 1 OWES 0 9990, both are IN; 0 has 500 CASH, 1 has 9999; 2 is OUT and has 9999. */
    private static Counted owedMuch() {
        Counted x = Check.told("y0 2 0;c50 0;d0 999 50;d0 999 99;d0 999 99;");
        x.goIn(0);
        x.goIn(1);
        for (int i = 0; i < 4; i++) x.week(60);
        for (int i = 0; i < 10; i++) x.lend(0, 1, 999);
        x.week(9);
        x.week(1);
        x.lend(0, 1, 9);
        x.lend(1, 0, 9);
        return x;
    }

    private static Counted fullOfHatsAndEntries() {
        Counted x = Check.told("y1 1 0;c1 1;d0 9 0;");
        for (int i = 0; i < 6; i++) x.hat(9 * i, true);
        for (int i = 0; i < 15; i++) x.write(0, i % 5);
        return x;
    }

    // ---- how nothing changes

    private static void refused(String what, World world, Call call, int due) {
        Counted asked = world.made();
        Check.due(what, call.of(asked), due);
        Check.same(what + ": nothing is changed", allThereIs(asked), allThereIs(world.made()));
    }

    /** All there is to know, by calls that change much: what can be undone, IMAGES, THE SEED, and the letters of THE TEXT. */
    private static String allThereIs(Counted x) {
        StringBuilder all = new StringBuilder(Check.allOf(x));
        all.append(" / fault ").append(x.fault()).append(" / seed ").append(x.seed(1));
        int undone = x.told(20);
        for (int i = 0; i < undone; i++) all.append(" / undo ").append(x.undo()).append(' ').append(lifeInShort(x));
        for (int i = 0; i <= 1; i++) {
            all.append(" / image ").append(x.goBack(i)).append(' ').append(lifeInShort(x)).append(x.seed(2));
        }
        all.append(" / yard ").append(x.yard()).append(' ').append(x.fault()).append(' ').append(Check.closeOf(x));
        return all.toString();
    }

    private static String lifeInShort(Counted x) {
        StringBuilder all = new StringBuilder();
        for (int what = 7; what <= 11; what++) all.append(x.told(what)).append(' ');
        int debtors = x.told(4);
        for (int d = 0; d < debtors; d++) all.append(x.debtor(d, 4)).append(' ').append(x.debtor(d, 6)).append(' ');
        return all.append(x.told(15)).append(' ').toString();
    }

    private static void theWorldsAreAsTold() {
        Counted x = busy();
        int[] is = {1, 1, 2, 3, 4, 0};
        for (int d = 0; d < 6; d++) Check.due("busy: what debtor " + d + " is", x.debtor(d, 3), is[d]);
        Check.due("busy: can be undone", x.told(20), 3);
        Check.due("busy: letters", x.told(6), 3);
        Check.due("busy: the fault", x.fault(), 0);
        Check.due("busy: 4 owes 0", x.owes(4, 0), 16);
        Check.due("busy: 1 owes 0", x.owes(1, 0), 30);
        Check.due("busy: cash of 0", x.debtor(0, 4), 10039);
        Counted much = owedMuch();
        Check.due("much: owed", much.owes(1, 0), 9990);
        Check.due("much: cash", much.debtor(0, 4), 10000 + 509);
        Check.due("above 9000", above9000().told(7), 9001);
        Check.due("no room", noRoom().told(8), 2);
        Check.due("full of hats", fullOfHatsAndEntries().told(18), 6);
        Check.due("full of entries", fullOfHatsAndEntries().told(19), 15);
        Check.due("full text", fullText().told(6), 240);
    }

    // ---- the yard

    private static void ofTheYard() {
        World busy = RefusalTest::busy;
        for (int letter : new int[] {-1, 256, LEAST, MOST}) {
            refused("2 OUTSIDE " + letter, busy, x -> x.feed(letter), OUTSIDE);
            refused("2 OUTSIDE, FULL " + letter, RefusalTest::fullText, x -> x.feed(letter), OUTSIDE);
        }
        for (int letter : new int[] {0, ' ', ';', 255}) refused("2 FULL " + letter, RefusalTest::fullText, x -> x.feed(letter), FULL);
        for (int what : new int[] {-1, 21, LEAST, MOST}) refused("5 OUTSIDE " + what, busy, x -> x.told(what), OUTSIDE);
        for (int c : new int[] {-1, 2, 4, LEAST, MOST}) {
            refused("6 UNKNOWN " + c, busy, x -> x.accepts(c, 0), UNKNOWN);
            refused("6 UNKNOWN, OUTSIDE " + c, busy, x -> x.accepts(c, -1), UNKNOWN);
        }
        for (int n : new int[] {-1, 10000, LEAST, MOST}) refused("6 OUTSIDE " + n, busy, x -> x.accepts(1, n), OUTSIDE);
        for (int d : new int[] {-1, 6, LEAST, MOST}) {
            refused("7 UNKNOWN " + d, busy, x -> x.debtor(d, 0), UNKNOWN);
            refused("7 UNKNOWN, OUTSIDE " + d, busy, x -> x.debtor(d, 7), UNKNOWN);
            refused("8 UNKNOWN " + d, busy, x -> x.owes(d, 0), UNKNOWN);
            refused("8 UNKNOWN, the other one " + d, busy, x -> x.owes(0, d), UNKNOWN);
            refused("8 UNKNOWN, both " + d, busy, x -> x.owes(d, d), UNKNOWN);
        }
        for (int d = 0; d < 6; d++) {
            int twice = d;
            refused("8 UNKNOWN, one twice " + d, busy, x -> x.owes(twice, twice), UNKNOWN);
        }
        for (int what : new int[] {-1, 7, LEAST, MOST}) refused("7 OUTSIDE " + what, busy, x -> x.debtor(5, what), OUTSIDE);
        for (int p : new int[] {-1, 1, 6, LEAST, MOST}) {
            refused("9 UNKNOWN " + p, busy, x -> x.place(p, 0), UNKNOWN);
            refused("9 UNKNOWN, OUTSIDE " + p, busy, x -> x.place(p, 3), UNKNOWN);
        }
        for (int what : new int[] {-1, 3, LEAST, MOST}) refused("9 OUTSIDE " + what, busy, x -> x.place(0, what), OUTSIDE);
    }

    // ---- what is done

    private static void ofWeeks() {
        for (int n : new int[] {-1, 0, 61, LEAST, MOST}) {
            refused("10 OUTSIDE " + n, RefusalTest::busy, x -> x.week(n), OUTSIDE);
            refused("10 OUTSIDE, NOT " + n, RefusalTest::withoutYard, x -> x.week(n), OUTSIDE);
            refused("10 OUTSIDE, FULL " + n, RefusalTest::above9000, x -> x.week(n), OUTSIDE);
            refused("16 OUTSIDE " + n, RefusalTest::busy, x -> x.drift(n), OUTSIDE);
            refused("16 OUTSIDE, NOT " + n, RefusalTest::withoutYard, x -> x.drift(n), OUTSIDE);
            refused("16 OUTSIDE, FULL " + n, RefusalTest::above9000, x -> x.drift(n), OUTSIDE);
        }
        for (int n : new int[] {1, 60}) {
            refused("10 NOT " + n, RefusalTest::withoutYard, x -> x.week(n), NOT);
            refused("10 FULL " + n, RefusalTest::above9000, x -> x.week(n), FULL);
            refused("16 NOT " + n, RefusalTest::withoutYard, x -> x.drift(n), NOT);
            refused("16 FULL " + n, RefusalTest::above9000, x -> x.drift(n), FULL);
        }
        refused("17 NOT", RefusalTest::fullOfHatsAndEntries, Counted::undo, NOT);
        refused("17 NOT, no yard", RefusalTest::withoutYard, Counted::undo, NOT);
    }

    private static void ofGoing() {
        World busy = RefusalTest::busy;
        for (int d : new int[] {-1, 6, LEAST, MOST}) {
            refused("11 UNKNOWN " + d, busy, x -> x.goIn(d), UNKNOWN);
            refused("12 UNKNOWN " + d, busy, x -> x.goOut(d), UNKNOWN);
        }
        refused("11 UNKNOWN, no room", RefusalTest::noRoom, x -> x.goIn(3), UNKNOWN);
        for (int d = 0; d < 5; d++) {
            int who = d;
            refused("11 NOT, he is not out " + d, busy, x -> x.goIn(who), NOT);
        }
        refused("11 NOT, no room", RefusalTest::noRoom, x -> x.goIn(0), NOT);
        refused("11 NOT, no room for the last", RefusalTest::noRoom, x -> x.goIn(2), NOT);
        refused("11 NOT, not out and no room", RefusalTest::noRoom, x -> x.goIn(1), NOT);
        for (int d = 2; d < 6; d++) {
            int who = d;
            refused("12 NOT, he is not in " + d, busy, x -> x.goOut(who), NOT);
        }
    }

    private static void ofSettling() {
        World busy = RefusalTest::busy;
        for (int d : new int[] {-1, 6, LEAST, MOST}) refused("13 UNKNOWN " + d, busy, x -> x.settle(d), UNKNOWN);
        for (int d = 2; d < 5; d++) {
            int who = d;
            refused("13 NOT, neither in nor out " + d, busy, x -> x.settle(who), NOT);
        }
        refused("13 NOT, in, has less", busy, x -> x.settle(0), NOT);
        refused("13 NOT, out, has less", busy, x -> x.settle(5), NOT);
    }

    private static void ofLending() {
        World busy = RefusalTest::busy;
        World much = RefusalTest::owedMuch;
        for (int d : new int[] {-1, 6, LEAST, MOST}) {
            refused("14 UNKNOWN " + d, busy, x -> x.lend(d, 0, 1), UNKNOWN);
            refused("14 UNKNOWN, the other one " + d, busy, x -> x.lend(0, d, 1), UNKNOWN);
            refused("14 UNKNOWN, OUTSIDE " + d, busy, x -> x.lend(d, 0, 0), UNKNOWN);
            refused("14 UNKNOWN, NOT " + d, busy, x -> x.lend(5, d, 1), UNKNOWN);
        }
        refused("14 UNKNOWN, one twice", busy, x -> x.lend(0, 0, 1), UNKNOWN);
        refused("14 UNKNOWN, one twice, OUTSIDE", busy, x -> x.lend(1, 1, 1000), UNKNOWN);
        refused("14 UNKNOWN, one twice, NOT", busy, x -> x.lend(5, 5, 1), UNKNOWN);
        for (int sum : new int[] {-1, 0, 1000, LEAST, MOST}) {
            refused("14 OUTSIDE " + sum, busy, x -> x.lend(0, 1, sum), OUTSIDE);
            refused("14 OUTSIDE, NOT " + sum, busy, x -> x.lend(5, 0, sum), OUTSIDE);
            refused("14 OUTSIDE, FULL " + sum, much, x -> x.lend(0, 1, sum), OUTSIDE);
        }
        for (int d = 2; d < 6; d++) {
            int who = d;
            refused("14 NOT, he is not in " + d, busy, x -> x.lend(who, 0, 1), NOT);
            refused("14 NOT, the other one is not in " + d, busy, x -> x.lend(0, who, 1), NOT);
        }
        refused("14 NOT, neither is in", busy, x -> x.lend(5, 3, 1), NOT);
        refused("14 NOT, has 1 less", busy, x -> x.lend(0, 1, 40), NOT);
        refused("14 NOT, FULL", much, x -> x.lend(0, 1, 510), NOT);
        refused("14 NOT, has much, is out", much, x -> x.lend(2, 0, 1), NOT);
        refused("14 FULL, 1 above", much, x -> x.lend(0, 1, 10), FULL);
        refused("14 FULL, all he has", much, x -> x.lend(0, 1, 509), FULL);
    }

    private static void ofSuing() {
        World busy = RefusalTest::busy;
        for (int d : new int[] {-1, 6, LEAST, MOST}) {
            refused("15 UNKNOWN " + d, busy, x -> x.sue(d, 1), UNKNOWN);
            refused("15 UNKNOWN, the other one " + d, busy, x -> x.sue(0, d), UNKNOWN);
        }
        for (int d = 0; d < 6; d++) {
            int who = d;
            refused("15 UNKNOWN, one twice " + d, busy, x -> x.sue(who, who), UNKNOWN);
        }
        refused("15 NOT, owes him nothing", busy, x -> x.sue(5, 1), NOT);
        refused("15 NOT, the other way about", busy, x -> x.sue(1, 0), NOT);
        refused("15 NOT, owes him, is in gaol", busy, x -> x.sue(0, 4), NOT);
        refused("15 NOT, owes him nothing, is in gaol", busy, x -> x.sue(0, 2), NOT);
        refused("15 NOT, owes him nothing, is out", busy, x -> x.sue(0, 5), NOT);
    }

    // ---- tried

    private static void ofTrying() {
        World busy = RefusalTest::busy;
        for (int d : new int[] {-1, 6, LEAST, MOST}) {
            refused("18 UNKNOWN " + d, busy, x -> x.soon(d), UNKNOWN);
            refused("19 UNKNOWN " + d, busy, x -> x.cheapest(d, 0), UNKNOWN);
            refused("19 UNKNOWN, OUTSIDE " + d, busy, x -> x.cheapest(d, 2), UNKNOWN);
            refused("22 UNKNOWN " + d, busy, x -> x.year(d, 0), UNKNOWN);
            refused("22 UNKNOWN, OUTSIDE " + d, busy, x -> x.year(d, 61), UNKNOWN);
            refused("23 UNKNOWN " + d, busy, x -> x.chain(d, 0), UNKNOWN);
            refused("23 UNKNOWN, OUTSIDE " + d, busy, x -> x.chain(d, 2), UNKNOWN);
        }
        for (int d = 2; d < 5; d++) {
            int who = d;
            refused("18 NOT " + d, busy, x -> x.soon(who), NOT);
            refused("19 NOT " + d, busy, x -> x.cheapest(who, 0), NOT);
            refused("19 NOT, how much " + d, busy, x -> x.cheapest(who, 1), NOT);
            refused("19 OUTSIDE, NOT " + d, busy, x -> x.cheapest(who, 2), OUTSIDE);
        }
        for (int what : new int[] {-1, 2, LEAST, MOST}) {
            refused("19 OUTSIDE " + what, busy, x -> x.cheapest(0, what), OUTSIDE);
            refused("21 OUTSIDE, what " + what, busy, x -> x.composition(0, what), OUTSIDE);
            refused("23 OUTSIDE " + what, busy, x -> x.chain(0, what), OUTSIDE);
        }
        for (int what : new int[] {-1, 3, LEAST, MOST}) refused("20 OUTSIDE, what " + what, busy, x -> x.outing(0, what), OUTSIDE);
        for (int t : new int[] {-1, 100, LEAST, MOST}) refused("20 OUTSIDE " + t, busy, x -> x.outing(t, 0), OUTSIDE);
        for (int q : new int[] {-1, 101, LEAST, MOST}) {
            refused("21 OUTSIDE " + q, busy, x -> x.composition(q, 0), OUTSIDE);
            refused("24 OUTSIDE, odds " + q, busy, x -> x.quiet(0, q), OUTSIDE);
        }
        for (int n : new int[] {-1, 61, LEAST, MOST}) {
            refused("22 OUTSIDE " + n, busy, x -> x.year(0, n), OUTSIDE);
            refused("24 OUTSIDE " + n, busy, x -> x.quiet(n, 0), OUTSIDE);
        }
    }

    // ---- hats, draws, images

    private static void ofHatsAndTheBook() {
        World busy = RefusalTest::busy;
        World full = RefusalTest::fullOfHatsAndEntries;
        for (int d : new int[] {-1, 61, LEAST, MOST}) {
            refused("25 OUTSIDE " + d, busy, x -> x.hat(d, true), OUTSIDE);
            refused("25 OUTSIDE, FULL " + d, full, x -> x.hat(d, false), OUTSIDE);
        }
        refused("25 FULL, over", full, x -> x.hat(60, true), FULL);
        refused("25 FULL, not over", full, x -> x.hat(0, false), FULL);
        for (int what : new int[] {-1, 3, LEAST, MOST}) refused("26 OUTSIDE " + what, busy, x -> x.over(what), OUTSIDE);
        for (int d : new int[] {-1, 6, LEAST, MOST}) {
            refused("28 UNKNOWN " + d, busy, x -> x.write(d, 0), UNKNOWN);
            refused("28 UNKNOWN, OUTSIDE " + d, busy, x -> x.write(d, 5), UNKNOWN);
            refused("28 UNKNOWN, FULL " + d, full, x -> x.write(d, 0), UNKNOWN);
            refused("28 UNKNOWN, OUTSIDE, FULL " + d, full, x -> x.write(d, -1), UNKNOWN);
        }
        for (int is : new int[] {-1, 5, LEAST, MOST}) {
            refused("28 OUTSIDE " + is, busy, x -> x.write(0, is), OUTSIDE);
            refused("28 OUTSIDE, FULL " + is, full, x -> x.write(0, is), OUTSIDE);
        }
        for (int is = 0; is <= 4; is++) {
            int what = is;
            refused("28 FULL " + is, full, x -> x.write(0, what), FULL);
        }
    }

    private static void ofDrawsAndImages() {
        World busy = RefusalTest::busy;
        for (int v : new int[] {-1, -2147483647, LEAST}) refused("31 OUTSIDE " + v, busy, x -> x.seed(v), OUTSIDE);
        for (int i : new int[] {-1, 2, LEAST, MOST}) {
            refused("32 UNKNOWN " + i, busy, x -> x.keep(i), UNKNOWN);
            refused("33 UNKNOWN " + i, busy, x -> x.goBack(i), UNKNOWN);
        }
        refused("33 NOT", busy, x -> x.goBack(1), NOT);
        refused("33 NOT, no yard", RefusalTest::withoutYard, x -> x.goBack(0), NOT);
    }

    private static void withoutAYard() {
        Check.sentence("PalaceYard(): No YARD.");
        World none = RefusalTest::withoutYard;
        refused("6", none, x -> x.accepts(0, 0), UNKNOWN);
        refused("7", none, x -> x.debtor(0, 0), UNKNOWN);
        refused("8", none, x -> x.owes(0, 1), UNKNOWN);
        refused("9", none, x -> x.place(0, 0), UNKNOWN);
        refused("11", none, x -> x.goIn(0), UNKNOWN);
        refused("12", none, x -> x.goOut(0), UNKNOWN);
        refused("13", none, x -> x.settle(0), UNKNOWN);
        refused("14", none, x -> x.lend(0, 1, 1), UNKNOWN);
        refused("15", none, x -> x.sue(0, 1), UNKNOWN);
        refused("18", none, x -> x.soon(0), UNKNOWN);
        refused("19", none, x -> x.cheapest(0, 0), UNKNOWN);
        refused("22", none, x -> x.year(0, 0), UNKNOWN);
        refused("23", none, x -> x.chain(0, 0), UNKNOWN);
        refused("28", none, x -> x.write(0, 0), UNKNOWN);
    }

    /** These are not refused, but change nothing, either. */
    private static void whatOnlyAsks() {
        Check.sentence("TRIED from now; nothing changes by it.");
        World busy = RefusalTest::busy;
        refused("4", busy, Counted::fault, 0);
        refused("6", busy, x -> x.accepts(0, 9), 5);
        refused("7", busy, x -> x.debtor(0, 5), 45);
        refused("8", busy, x -> x.owes(1, 4), 20);
        refused("9", busy, x -> x.place(0, 1), 4);
        refused("18", busy, x -> x.soon(0), 1);
        refused("18 NONE", busy, x -> x.soon(5), Check.NONE);
        refused("19", busy, x -> x.cheapest(0, 1), 45);
        refused("20", busy, x -> x.outing(14, 0), 10);
        refused("21", busy, x -> x.composition(45, 0), 3);
        refused("22", busy, x -> x.year(0, 60), 10000 + 39 + 85 * 60);
        refused("23", busy, x -> x.chain(4, 0), 2);
        refused("24", busy, x -> x.quiet(1, 1), 990000000);
        refused("26", busy, x -> x.over(0), 30);
        refused("27", busy, Counted::look, 35);
        refused("30", busy, Counted::judge, 2);
    }
}
