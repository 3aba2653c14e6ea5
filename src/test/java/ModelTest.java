import java.util.Random;

/** Runs of 512 calls, drawn from fixed seeds, on the class and on the model: each answer must be alike. */
public final class ModelTest {
    private static final int RUNS = 1500;
    private static final int[] FAR = {Integer.MIN_VALUE, -1000000, -2, -1, 7, 16, 61, 101, 241, 256, 10000, Integer.MAX_VALUE};

    private final Random random;
    private final Counted yard = new Counted();
    private final Model model = new Model();
    private final String name;
    private int calls = 0;

    private ModelTest(int run) {
        random = new Random(run);
        name = "run " + run;
    }

    public static void main(String[] args) {
        for (int run = 0; run < RUNS; run++) new ModelTest(run).play();
        Check.end();
    }

    private void play() {
        if (random.nextInt(10) > 0) tell(text());
        while (yard.callsLeft() > 0) {
            if (random.nextInt(150) == 0) tell(random.nextInt(3) == 0 ? spoilt(text()) : text());
            else if (random.nextInt(40) == 0) askAll();
            else if (random.nextInt(2) == 0) doOne(random.nextInt(11));
            else tryOne(random.nextInt(25));
        }
    }

    private void due(String call, int got, int want) {
        calls++;
        Check.due(name + ", call " + calls + ": " + call, got, want);
    }

    private int upTo(int n) {
        return random.nextInt(n + 1);
    }

    /** A number 0 to n, now and then one far off. */
    private int about(int n) {
        if (random.nextInt(25) == 0) return n + 1;
        return random.nextInt(40) == 0 ? FAR[random.nextInt(FAR.length)] : upTo(n);
    }

    private int someone() {
        return about(Math.max(0, yardDebtors() - 1));
    }

    private int yardDebtors() {
        return model.told(4);
    }

    private String text() {
        StringBuilder text = new StringBuilder();
        boolean cheap = random.nextBoolean();
        int creditors = 1 + random.nextInt(4);
        int debtors = 1 + random.nextInt(6);
        text.append('y').append(upTo(cheap ? 20 : 99)).append(' ').append(1 + random.nextInt(6)).append(' ');
        text.append(random.nextInt(3) == 0 ? upTo(6) : upTo(1)).append(';');
        for (int c = 0; c < creditors; c++) text.append('c').append(1 + upTo(99)).append(' ').append(upTo(20)).append(';');
        boolean alike = random.nextInt(3) == 0;
        for (int d = 0; d < debtors; d++) {
            text.append('d').append(upTo(creditors - 1)).append(' ').append(1 + upTo(alike ? 3 : 998)).append(' ');
            text.append(random.nextBoolean() ? 99 - upTo(9) : upTo(99)).append(';');
        }
        int side = random.nextBoolean() ? 20 : 4;
        for (int p = upTo(6); p > 0; p--) {
            text.append('p').append(upTo(side)).append(' ').append(upTo(side)).append(' ').append(upTo(alike ? 2 : 99)).append(';');
        }
        return text.toString();
    }

    private String spoilt(String text) {
        StringBuilder spoilt = new StringBuilder(text);
        String signs = "ycdp; 0123456789x";
        for (int i = upTo(2); i >= 0; i--) {
            int at = random.nextInt(spoilt.length());
            char sign = random.nextInt(9) == 0 ? (char) random.nextInt(256) : signs.charAt(random.nextInt(signs.length()));
            switch (random.nextInt(4)) {
                case 0: spoilt.setCharAt(at, sign); break;
                case 1: spoilt.insert(at, sign); break;
                case 2: if (spoilt.length() > 1) spoilt.deleteCharAt(at); break;
                default: if (at > 0) spoilt.setLength(at); break;
            }
        }
        return spoilt.toString();
    }

    private void tell(String text) {
        if (yard.callsLeft() < text.length() + 2) return;
        for (int i = 0; i < text.length(); i++) {
            char letter = text.charAt(i);
            due("feed(" + (int) letter + ")", yard.feed(letter), model.feed(letter));
        }
        due("yard() of [" + text + "]", yard.yard(), model.yard());
        due("fault()", yard.fault(), model.fault());
    }

    private void askAll() {
        if (yard.callsLeft() < 21 + 4 * yardDebtors()) return;
        for (int what = 0; what <= 20; what++) due("told(" + what + ")", yard.told(what), model.told(what));
        for (int d = 0; d < yardDebtors(); d++) {
            for (int what = 3; what <= 6; what++) due("debtor " + d + " " + what, yard.debtor(d, what), model.debtor(d, what));
        }
    }

    private void doOne(int which) {
        int d = someone();
        int e = someone();
        int n = random.nextInt(3) == 0 ? about(60) : 1 + upTo(3);
        int much = random.nextInt(3) == 0 ? 999 - upTo(9) : about(999);
        if (random.nextInt(3) == 0) much = 1 + upTo(30);
        switch (which) {
            case 0: due("week(" + n + ")", yard.week(n), model.week(n)); break;
            case 1: case 2: case 3: due("goIn(" + d + ")", yard.goIn(d), model.goIn(d)); break;
            case 4: due("goOut(" + d + ")", yard.goOut(d), model.goOut(d)); break;
            case 5: if (upTo(3) == 0) due("settle(" + d + ")", yard.settle(d), model.settle(d)); break;
            case 6: case 7: due("lend(" + d + ", " + e + ", " + much + ")", yard.lend(d, e, much), model.lend(d, e, much)); break;
            case 8: due("sue(" + d + ", " + e + ")", yard.sue(d, e), model.sue(d, e)); break;
            case 9: if (upTo(3) == 0) due("drift(" + n + ")", yard.drift(n), model.drift(n)); break;
            default: due("undo()", yard.undo(), model.undo()); break;
        }
    }

    private void tryOne(int which) {
        int d = someone();
        int e = someone();
        int what = about(2);
        int i = about(1);
        int n = about(60);
        int q = about(100);
        boolean is = random.nextBoolean();
        switch (which) {
            case 0: due("soon(" + d + ")", yard.soon(d), model.soon(d)); break;
            case 1: due("cheapest(" + d + ", " + i + ")", yard.cheapest(d, i), model.cheapest(d, i)); break;
            case 2: if (upTo(3) == 0) due("outing(" + q + ", " + what + ")", yard.outing(q, what), model.outing(q, what)); break;
            case 3: due("composition(" + q + ", " + i + ")", yard.composition(q, i), model.composition(q, i)); break;
            case 4: due("year(" + d + ", " + n + ")", yard.year(d, n), model.year(d, n)); break;
            case 5: due("chain(" + d + ", " + i + ")", yard.chain(d, i), model.chain(d, i)); break;
            case 6: due("quiet(" + n + ", " + q + ")", yard.quiet(n, q), model.quiet(n, q)); break;
            case 7: due("hat(" + n + ", " + is + ")", yard.hat(n, is), model.hat(n, is)); break;
            case 8: due("over(" + what + ")", yard.over(what), model.over(what)); break;
            case 9: due("look()", yard.look(), model.look()); break;
            case 10: writeOne(d); break;
            case 11: if (upTo(9) == 0) due("tear()", yard.tear(), model.tear()); break;
            case 12: due("judge()", yard.judge(), model.judge()); break;
            case 13: seedOne(); break;
            case 14: if (upTo(3) == 0) due("keep(" + i + ")", yard.keep(i), model.keep(i)); break;
            case 15: if (upTo(3) == 0) due("goBack(" + i + ")", yard.goBack(i), model.goBack(i)); break;
            case 16: due("owes(" + d + ", " + e + ")", yard.owes(d, e), model.owes(d, e)); break;
            default: askOne(which, d, q); break;
        }
    }

    private void writeOne(int d) {
        int is = upTo(3) == 0 ? about(4) : Math.max(0, model.debtor(d, 3));
        due("write(" + d + ", " + is + ")", yard.write(d, is), model.write(d, is));
    }

    private void seedOne() {
        int v = upTo(3) == 0 ? random.nextInt() : random.nextInt(1000);
        due("seed(" + v + ")", yard.seed(v), model.seed(v));
    }

    private void askOne(int which, int d, int q) {
        int what = about(20);
        int n = about(which == 17 ? 9999 : 20);
        switch (which) {
            case 17: case 18: due("accepts(" + d + ", " + n + ")", yard.accepts(d, n), model.accepts(d, n)); break;
            case 19: due("place(" + d + ", " + what % 4 + ")", yard.place(d, what % 4), model.place(d, what % 4)); break;
            case 20: case 21: due("debtor(" + d + ", " + what % 8 + ")", yard.debtor(d, what % 8), model.debtor(d, what % 8)); break;
            case 22: if (upTo(20) == 0) due("feed(" + q + ")", yard.feed(q), model.feed(q)); break;
            default: due("told(" + what + ")", yard.told(what), model.told(what)); break;
        }
    }
}
