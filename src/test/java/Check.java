/** Counts answers that are not as due, and tells each of them. */
final class Check {
    static final int NONE = -1, UNKNOWN = -1000000001, OUTSIDE = -1000000002, NOT = -1000000003, FULL = -1000000004;

    /** The yard that most tests use: 2 CREDITORS, 4 DEBTORS, 4 PLACES. */
    static final String TOWN = "y10 2 1;c80 10;c4 0;d0 100 30;d0 50 5;d1 300 12;d0 100 20;"
            + "p3 4 10;p0 5 7;p10 10 50;p3 5 1;";

    /** Without bailiffs and rent, with wealth: nobody is ever moved by a WEEK. */
    static final String RICH = "y0 6 0;c100 0;d0 999 99;d0 999 99;d0 999 99;d0 999 0;d0 999 0;d0 999 50;";

    private static int asked = 0;
    private static int wrong = 0;

    private Check() {
    }

    static void due(String what, long got, long want) {
        asked++;
        if (got == want) return;
        wrong++;
        System.out.println(what + " answered " + got + ", due is " + want);
    }

    static void feed(PalaceYard yard, String text) {
        for (int i = 0; i < text.length(); i++) {
            if (yard.feed(text.charAt(i)) < 0) throw new IllegalStateException("refused letter " + i + " of " + text);
        }
    }

    static PalaceYard told(String text) {
        PalaceYard yard = new PalaceYard();
        feed(yard, text);
        if (yard.yard() < 0) throw new IllegalStateException("fault at " + yard.fault() + " of " + text);
        return yard;
    }

    /** All that can be asked of what is so, in one text: to see that a call changed nothing. */
    static String allOf(PalaceYard yard) {
        StringBuilder all = new StringBuilder();
        for (int what = 0; what <= 20; what++) all.append(yard.told(what)).append(' ');
        for (int d = 0; d < yard.told(4); d++) {
            for (int what = 0; what <= 6; what++) all.append(yard.debtor(d, what)).append(' ');
            for (int e = 0; e < yard.told(4); e++) all.append(yard.owes(d, e)).append(' ');
        }
        for (int c = 0; c < yard.told(3); c++) all.append(yard.accepts(c, 0)).append(' ').append(yard.accepts(c, 1)).append(' ');
        for (int p = 0; p < yard.told(5); p++) {
            for (int what = 0; what <= 2; what++) all.append(yard.place(p, what)).append(' ');
        }
        for (int what = 0; what <= 2; what++) all.append(yard.over(what)).append(' ');
        return all.append(yard.look()).append(' ').append(yard.judge()).append(' ').append(yard.fault()).toString();
    }

    static void same(String what, String got, String want) {
        asked++;
        if (got.equals(want)) return;
        wrong++;
        System.out.println(what + ":\n  is  " + got + "\n  due " + want);
    }

    static void end() {
        System.out.println(asked + " answers asked, " + wrong + " not as due");
        if (wrong != 0) System.exit(1);
    }
}
