import java.util.Arrays;

/**
 * A close of the crown's own ground in which debtors are safe from arrest.
 *
 * All rows are made in the constructors and used again: no call makes an object.
 */
public final class PalaceYard {
    public static final int NONE = -1, UNKNOWN = -1000000001, OUTSIDE = -1000000002, NOT = -1000000003, FULL = -1000000004;

    private static final int BILLION = 1000000000;
    private static final int ABOVE_ZERO = 10000;

    private static final int MOST_LETTERS = 240;
    private static final int MOST_FIGURES = 3;
    private static final int MOST_NUMBERS = 3;
    private static final int MOST_CREDITORS = 4;
    private static final int MOST_DEBTORS = 6;
    private static final int MOST_PLACES = 6;

    private static final int THE_CLOSE = 0, A_CREDITOR = 1, A_DEBTOR = 2, A_PLACE = 3;
    private static final int[] NUMBERS_OF = {3, 2, 3, 3};
    private static final int[] LEAST = {0, 1, 0, 1, 0, 0, 0, 1, 0, 0, 0, 0};
    private static final int[] GREATEST = {99, 6, 6, 100, 20, 0, 3, 999, 99, 20, 20, 99};

    private static final int CANNOT_STAND = 1, BAD_NUMBER = 2, TOO_MANY = 3;

    private static final int IS_OUT = 0, IS_IN = 1, IS_GAOLED = 2, IS_FREE = 3, IS_BAILIES = 4;

    private static final int LEAST_ACCEPTED = 5;
    private static final int MOST_CASH = 9999;
    private static final int MOST_OWED = 9999;
    private static final int MOST_LODGING = 999999;
    private static final int MOST_LENT = 999;
    private static final int LAST_TOLD_WEEK = 9999;
    private static final int LAST_WEEK_TO_START = 9000;
    private static final int MOST_WEEKS = 60;
    private static final int SOON_WEEKS = 200;
    private static final int MOST_STEPS = 99;
    private static final int MOST_INCHES = 60;
    private static final int MOST_HATS = 6;
    private static final int MOST_ENTRIES = 15;
    private static final int MOST_UNDONE = 16;

    private static final long DRAW_TIMES = 1103515245L, DRAW_MORE = 12345L, DRAW_MASK = 2147483647L;
    private static final int DRAW_CUT = 65536;

    private final Letters letters;
    private final Reader reader;
    private final Close draft;
    private final Town town;
    private final Walk walk;
    private final Past past;
    private final Image image0;
    private final Image image1;
    private final Hats hats;
    private final Book book;
    private int faultAt;
    private int theSeed;

    public PalaceYard() {
        letters = new Letters();
        reader = new Reader();
        draft = new Close();
        town = new Town();
        walk = new Walk();
        past = new Past();
        image0 = new Image();
        image1 = new Image();
        hats = new Hats();
        book = new Book();
        faultAt = NONE;
        theSeed = 0;
    }

    // ---- the yard

    public int feed(int letter) {
        if (letter < 0 || letter > 255) return OUTSIDE;
        if (letters.count >= MOST_LETTERS) return FULL;
        letters.add(letter);
        return letters.count;
    }

    public int yard() {
        int fault = reader.readAll(letters, draft);
        letters.count = 0;
        faultAt = reader.faultAt;
        if (fault != 0) return -10 - fault;
        town.begin(draft);
        past.forget();
        image0.kept = false;
        image1.kept = false;
        hats.clear();
        book.count = 0;
        return town.close.debtors;
    }

    public int fault() {
        return faultAt;
    }

    public int told(int what) {
        switch (what) {
            case 0: return town.close.lodging;
            case 1: return town.close.rooms;
            case 2: return town.close.bailiffs;
            case 3: return town.close.creditors;
            case 4: return town.close.debtors;
            case 5: return town.close.places;
            case 6: return letters.count;
            case 7: return town.life.weeks;
            case 8: return town.allWhoAre(IS_IN);
            case 9: return town.allWhoAre(IS_OUT);
            case 10: return town.allWhoAre(IS_FREE);
            case 11: return town.allWhoAre(IS_GAOLED) | town.allWhoAre(IS_BAILIES);
            case 12: return town.arrestedNext();
            case 13: return town.allSafe();
            case 14: return town.life.arrested;
            case 15: return town.life.lodging;
            case 16: return town.priceOfRooms();
            case 17: return town.life.debts.cleared();
            case 18: return hats.count;
            case 19: return book.count;
            case 20: return past.count;
            default: return OUTSIDE;
        }
    }

    public int accepts(int c, int n) {
        if (c < 0 || c >= town.close.creditors) return UNKNOWN;
        if (n < 0 || n > LAST_TOLD_WEEK) return OUTSIDE;
        return town.close.acceptedBy(c, n);
    }

    public int debtor(int d, int what) {
        if (!isDebtor(d)) return UNKNOWN;
        switch (what) {
            case 0: return town.close.creditorOf[d];
            case 1: return town.close.sumOf[d];
            case 2: return town.close.incomeOf[d];
            case 3: return town.life.is[d];
            case 4: return town.life.cash[d] + ABOVE_ZERO;
            case 5: return town.costToSettle(d, town.life.weeks);
            case 6: return town.life.debts.net(d) + ABOVE_ZERO;
            default: return OUTSIDE;
        }
    }

    public int owes(int d, int e) {
        if (!areTwoDebtors(d, e)) return UNKNOWN;
        return town.life.debts.owed(d, e);
    }

    public int place(int p, int what) {
        if (p < 0 || p >= town.close.places) return UNKNOWN;
        switch (what) {
            case 0: return town.close.x[p];
            case 1: return town.close.y[p];
            case 2: return town.close.worth[p];
            default: return OUTSIDE;
        }
    }

    // ---- what is done

    public int week(int n) {
        int refusal = refusalOfWeeks(n);
        if (refusal != 0) return refusal;
        past.remember(town.life);
        for (int i = 0; i < n; i++) town.passWeek();
        return town.life.weeks;
    }

    public int goIn(int d) {
        if (!isDebtor(d)) return UNKNOWN;
        if (!town.mayEnter(d)) return NOT;
        past.remember(town.life);
        town.life.is[d] = IS_IN;
        return town.allWhoAre(IS_IN);
    }

    public int goOut(int d) {
        if (!isDebtor(d)) return UNKNOWN;
        if (town.life.is[d] != IS_IN) return NOT;
        past.remember(town.life);
        town.life.is[d] = IS_OUT;
        return town.allWhoAre(IS_OUT);
    }

    public int settle(int d) {
        if (!isDebtor(d)) return UNKNOWN;
        if (!town.maySettle(d)) return NOT;
        past.remember(town.life);
        return town.payCreditor(d);
    }

    public int lend(int d, int e, int much) {
        if (!areTwoDebtors(d, e)) return UNKNOWN;
        if (much < 1 || much > MOST_LENT) return OUTSIDE;
        int refusal = town.refusalOfLoan(d, e, much);
        if (refusal != 0) return refusal;
        past.remember(town.life);
        town.giveLoan(d, e, much);
        return town.life.debts.owed(e, d);
    }

    public int sue(int d, int e) {
        if (!areTwoDebtors(d, e)) return UNKNOWN;
        if (!town.maySue(d, e)) return NOT;
        past.remember(town.life);
        return town.bringToCourt(d, e);
    }

    public int drift(int n) {
        int refusal = refusalOfWeeks(n);
        if (refusal != 0) return refusal;
        past.remember(town.life);
        for (int i = 0; i < n; i++) {
            if (town.close.debtors > 0) actByDraws();
            town.passWeek();
        }
        return town.life.arrested;
    }

    public int undo() {
        if (past.count == 0) return NOT;
        past.returnTo(town.life);
        return past.count;
    }

    // ---- tried

    public int soon(int d) {
        if (!isDebtor(d)) return UNKNOWN;
        if (!town.isAbout(d)) return NOT;
        return town.firstWeekToSettle(d);
    }

    public int cheapest(int d, int what) {
        if (!isDebtor(d)) return UNKNOWN;
        if (what < 0 || what > 1) return OUTSIDE;
        if (!town.isAbout(d)) return NOT;
        int weeks = town.cheapestWeekToSettle(d);
        if (weeks == NONE || what == 0) return weeks;
        return town.costOfSettlingBehind(d, weeks);
    }

    public int outing(int t, int what) {
        if (t < 0 || t > MOST_STEPS || what < 0 || what > 2) return OUTSIDE;
        walk.findBest(town.close, t);
        if (what == 0) return walk.bestWorth;
        return what == 1 ? walk.bestSteps : walk.bestFigures;
    }

    public int composition(int q, int what) {
        if (q < 0 || q > 100 || what < 0 || what > 1) return OUTSIDE;
        int willing = town.creditorsAccepting(q);
        if (what == 0) return willing;
        return town.isBoundBy(willing) ? 1 : 0;
    }

    public int year(int d, int n) {
        if (!isDebtor(d)) return UNKNOWN;
        if (n < 0 || n > MOST_WEEKS) return OUTSIDE;
        int cash = town.life.cash[d];
        for (int i = 0; i < n; i++) cash = town.cashWeekLater(cash, d, true);
        return cash + ABOVE_ZERO;
    }

    public int chain(int d, int what) {
        if (!isDebtor(d)) return UNKNOWN;
        if (what < 0 || what > 1) return OUTSIDE;
        return town.life.debts.chainFrom(d, what == 1);
    }

    public int quiet(int n, int q) {
        if (n < 0 || n > MOST_WEEKS || q < 0 || q > 100) return OUTSIDE;
        long odds = BILLION;
        for (int i = 0; i < n; i++) odds = odds * (100 - q) / 100;
        return (int) odds;
    }

    // ---- hats

    public int hat(int d, boolean over) {
        if (d < 0 || d > MOST_INCHES) return OUTSIDE;
        if (hats.count >= MOST_HATS) return FULL;
        hats.add(d, over);
        return hats.count;
    }

    public int over(int what) {
        if (what < 0 || what > 2) return OUTSIDE;
        if (what == 0) return hats.howManyFit();
        if (hats.howManyFit() == 0) return NONE;
        return what == 1 ? hats.least : hats.greatest;
    }

    public int look() {
        return hats.bestLine();
    }

    public int write(int d, int is) {
        if (!isDebtor(d)) return UNKNOWN;
        if (is < IS_OUT || is > IS_BAILIES) return OUTSIDE;
        if (book.count >= MOST_ENTRIES) return FULL;
        book.add(d, is);
        return book.count;
    }

    public int tear() {
        int both = hats.count + book.count;
        hats.clear();
        book.count = 0;
        return both;
    }

    public int judge() {
        return book.firstWrong(town.life);
    }

    // ---- draws, images

    public int seed(int v) {
        if (v < 0) return OUTSIDE;
        int before = theSeed;
        theSeed = v;
        return before;
    }

    public int keep(int i) {
        if (i < 0 || i > 1) return UNKNOWN;
        imageOf(i).take(town.life, theSeed);
        past.forget();
        return 1;
    }

    public int goBack(int i) {
        if (i < 0 || i > 1) return UNKNOWN;
        Image image = imageOf(i);
        if (!image.kept) return NOT;
        image.bringBack(town.life);
        theSeed = image.seed;
        past.forget();
        return 1;
    }

    // ---- what several calls share

    private boolean isDebtor(int d) {
        return d >= 0 && d < town.close.debtors;
    }

    private boolean areTwoDebtors(int d, int e) {
        return isDebtor(d) && isDebtor(e) && d != e;
    }

    private Image imageOf(int i) {
        return i == 0 ? image0 : image1;
    }

    private int refusalOfWeeks(int n) {
        if (n < 1 || n > MOST_WEEKS) return OUTSIDE;
        if (!town.close.stands) return NOT;
        return town.life.weeks > LAST_WEEK_TO_START ? FULL : 0;
    }

    private int draw(int n) {
        theSeed = (int) (theSeed * DRAW_TIMES + DRAW_MORE & DRAW_MASK);
        return n > 0 ? theSeed / DRAW_CUT % n : 0;
    }

    private void actByDraws() {
        int d = draw(town.close.debtors);
        if (!isDebtor(d)) return;
        switch (draw(5)) {
            case 0:
                if (town.mayEnter(d)) town.life.is[d] = IS_IN;
                break;
            case 1:
                if (town.life.is[d] == IS_IN) town.life.is[d] = IS_OUT;
                break;
            case 2:
                if (town.maySettle(d)) town.payCreditor(d);
                break;
            case 3:
                lendByDraws(d);
                break;
            default:
                sueFirst(d);
                break;
        }
    }

    private void lendByDraws(int d) {
        int much = draw(20) + 1;
        int e = draw(town.close.debtors);
        if (areTwoDebtors(d, e) && town.refusalOfLoan(d, e, much) == 0) town.giveLoan(d, e, much);
    }

    private void sueFirst(int d) {
        int e = town.life.debts.firstOwing(d);
        if (areTwoDebtors(d, e) && town.maySue(d, e)) town.bringToCourt(d, e);
    }

    /** THE TEXT as it was fed. */
    private static final class Letters {
        final int[] signs;
        int count;

        Letters() {
            signs = new int[MOST_LETTERS];
            count = 0;
        }

        void add(int letter) {
            if (count < 0 || count >= signs.length) return;
            signs[count] = letter;
            count++;
        }

        int signAt(int i) {
            return i >= 0 && i < count && i < signs.length ? signs[i] : NONE;
        }
    }

    /** What a text told of the close and its people, before any WEEK. */
    private static final class Close {
        final int[] firstOf;
        final int[] lessOf;
        final int[] creditorOf;
        final int[] sumOf;
        final int[] incomeOf;
        final int[] x;
        final int[] y;
        final int[] worth;
        boolean stands;
        int lodging;
        int rooms;
        int bailiffs;
        int creditors;
        int debtors;
        int places;

        Close() {
            firstOf = new int[MOST_CREDITORS];
            lessOf = new int[MOST_CREDITORS];
            creditorOf = new int[MOST_DEBTORS];
            sumOf = new int[MOST_DEBTORS];
            incomeOf = new int[MOST_DEBTORS];
            x = new int[MOST_PLACES];
            y = new int[MOST_PLACES];
            worth = new int[MOST_PLACES];
        }

        void clear() {
            stands = false;
            lodging = 0;
            rooms = 0;
            bailiffs = 0;
            creditors = 0;
            debtors = 0;
            places = 0;
        }

        void take(Close other) {
            stands = other.stands;
            lodging = other.lodging;
            rooms = other.rooms;
            bailiffs = other.bailiffs;
            creditors = other.creditors;
            debtors = other.debtors;
            places = other.places;
            System.arraycopy(other.firstOf, 0, firstOf, 0, MOST_CREDITORS);
            System.arraycopy(other.lessOf, 0, lessOf, 0, MOST_CREDITORS);
            System.arraycopy(other.creditorOf, 0, creditorOf, 0, MOST_DEBTORS);
            System.arraycopy(other.sumOf, 0, sumOf, 0, MOST_DEBTORS);
            System.arraycopy(other.incomeOf, 0, incomeOf, 0, MOST_DEBTORS);
            System.arraycopy(other.x, 0, x, 0, MOST_PLACES);
            System.arraycopy(other.y, 0, y, 0, MOST_PLACES);
            System.arraycopy(other.worth, 0, worth, 0, MOST_PLACES);
        }

        boolean hasAllOf(int kind) {
            switch (kind) {
                case THE_CLOSE: return stands;
                case A_CREDITOR: return creditors >= MOST_CREDITORS;
                case A_DEBTOR: return debtors >= MOST_DEBTORS;
                default: return places >= MOST_PLACES;
            }
        }

        void add(int kind, int first, int second, int third) {
            if (hasAllOf(kind)) return;
            switch (kind) {
                case THE_CLOSE:
                    stands = true;
                    lodging = first;
                    rooms = second;
                    bailiffs = third;
                    break;
                case A_CREDITOR:
                    firstOf[creditors] = first;
                    lessOf[creditors] = second;
                    creditors++;
                    break;
                case A_DEBTOR:
                    creditorOf[debtors] = first;
                    sumOf[debtors] = second;
                    incomeOf[debtors] = third;
                    debtors++;
                    break;
                default:
                    x[places] = first;
                    y[places] = second;
                    worth[places] = third;
                    places++;
                    break;
            }
        }

        int acceptedBy(int c, int week) {
            if (c < 0 || c >= creditors) return 0;
            int least = Math.min(firstOf[c], LEAST_ACCEPTED);
            return Math.max(firstOf[c] - lessOf[c] * week, least);
        }

        /** Steps from one PLACE to another; NONE is the gate at 0, 0. */
        int stepsBetween(int p, int q) {
            boolean fromPlace = p >= 0 && p < places;
            boolean toPlace = q >= 0 && q < places;
            int wide = (fromPlace ? x[p] : 0) - (toPlace ? x[q] : 0);
            int deep = (fromPlace ? y[p] : 0) - (toPlace ? y[q] : 0);
            return Math.abs(wide) + Math.abs(deep);
        }
    }

    /** Reads THE TEXT up to its first FAULT. */
    private static final class Reader {
        private final int[] numbers;
        private int at;
        private int fault;
        int faultAt;

        Reader() {
            numbers = new int[MOST_NUMBERS];
            faultAt = NONE;
        }

        /** Answers the number of the first FAULT, 0 if there is none. */
        int readAll(Letters text, Close into) {
            into.clear();
            at = 0;
            fault = 0;
            faultAt = NONE;
            for (int i = 0; i <= MOST_LETTERS && fault == 0; i++) {
                skipBlanks(text);
                if (at >= text.count) break;
                readClause(text, into);
            }
            return fault;
        }

        private void readClause(Letters text, Close into) {
            int kind = kindOf(text.signAt(at));
            int wrong = faultOfWord(kind, into);
            if (wrong != 0) {
                stopAt(at, wrong);
                return;
            }
            at++;
            readNumbers(text, kind, into);
            if (fault == 0) readEnd(text);
            if (fault == 0) into.add(kind, numbers[0], numbers[1], numbers[2]);
        }

        private static int kindOf(int letter) {
            switch (letter) {
                case 'y': return THE_CLOSE;
                case 'c': return A_CREDITOR;
                case 'd': return A_DEBTOR;
                case 'p': return A_PLACE;
                default: return NONE;
            }
        }

        private static int faultOfWord(int kind, Close into) {
            if (kind == NONE || !into.stands && kind != THE_CLOSE) return CANNOT_STAND;
            return into.hasAllOf(kind) ? TOO_MANY : 0;
        }

        private void readNumbers(Letters text, int kind, Close into) {
            if (kind < 0 || kind >= NUMBERS_OF.length) return;
            for (int i = 0; i < NUMBERS_OF[kind] && i < numbers.length && fault == 0; i++) {
                int row = kind * MOST_NUMBERS + i;
                if (row >= LEAST.length || row >= GREATEST.length) return;
                boolean isCreditor = kind == A_DEBTOR && i == 0;
                numbers[i] = readNumber(text, LEAST[row], isCreditor ? into.creditors - 1 : GREATEST[row]);
            }
        }

        private int readNumber(Letters text, int least, int greatest) {
            skipBlanks(text);
            int first = at;
            int value = 0;
            for (int i = 0; i < MOST_LETTERS && isFigure(text.signAt(at)); i++) {
                if (i < MOST_FIGURES) value = value * 10 + text.signAt(at) - '0';
                at++;
            }
            int figures = at - first;
            if (figures == 0) stopAt(first, CANNOT_STAND);
            else if (figures > MOST_FIGURES || value < least || value > greatest) stopAt(first, BAD_NUMBER);
            return value;
        }

        private void readEnd(Letters text) {
            skipBlanks(text);
            if (text.signAt(at) == ';') at++;
            else stopAt(at, CANNOT_STAND);
        }

        private void skipBlanks(Letters text) {
            for (int i = 0; i < MOST_LETTERS && text.signAt(at) == ' '; i++) at++;
        }

        private static boolean isFigure(int letter) {
            return letter >= '0' && letter <= '9';
        }

        private void stopAt(int letter, int wrong) {
            fault = wrong;
            faultAt = letter;
        }
    }

    /** What is OWED INSIDE. */
    private static final class Debts {
        static final int SIZE = MOST_DEBTORS * MOST_DEBTORS;

        /** At d * 6 + e what d OWES e; below 0 it is the other way about. */
        final int[] balance;

        Debts() {
            balance = new int[SIZE];
        }

        private static boolean isRow(int d, int e) {
            return d >= 0 && d < MOST_DEBTORS && e >= 0 && e < MOST_DEBTORS;
        }

        int balanceOf(int d, int e) {
            return isRow(d, e) ? balance[d * MOST_DEBTORS + e] : 0;
        }

        int owed(int d, int e) {
            return Math.max(0, balanceOf(d, e));
        }

        void addTo(int d, int e, int much) {
            if (!isRow(d, e)) return;
            balance[d * MOST_DEBTORS + e] += much;
            balance[e * MOST_DEBTORS + d] -= much;
        }

        int net(int d) {
            int sum = 0;
            for (int e = 0; e < MOST_DEBTORS; e++) sum += balanceOf(e, d);
            return sum;
        }

        int cleared() {
            int all = 0;
            for (int d = 0; d < MOST_DEBTORS; d++) {
                all -= Math.max(0, net(d));
                for (int e = 0; e < MOST_DEBTORS; e++) all += owed(d, e);
            }
            return all;
        }

        int firstOwing(int d) {
            for (int e = 0; e < MOST_DEBTORS; e++) {
                if (owed(e, d) > 0) return e;
            }
            return NONE;
        }

        private int mostOwedBy(int d) {
            int best = NONE;
            int most = 0;
            for (int e = 0; e < MOST_DEBTORS; e++) {
                if (owed(d, e) > most) {
                    most = owed(d, e);
                    best = e;
                }
            }
            return best;
        }

        /** How many are in the chain from d on; or who is its last one. */
        int chainFrom(int d, boolean asksLast) {
            int chained = 1 << d;
            int last = d;
            int next = mostOwedBy(d);
            for (int i = 0; i < MOST_DEBTORS && next != NONE && (chained >> next & 1) == 0; i++) {
                chained |= 1 << next;
                last = next;
                next = mostOwedBy(last);
            }
            return asksLast ? last : Integer.bitCount(chained);
        }
    }

    /** All of section 2: what weeks and deeds change. */
    private static final class Life {
        static final int SIZE = 2 * MOST_DEBTORS + Debts.SIZE + 3;

        final int[] is;
        final int[] cash;
        final Debts debts;
        int weeks;
        int arrested;
        int lodging;

        Life() {
            is = new int[MOST_DEBTORS];
            cash = new int[MOST_DEBTORS];
            debts = new Debts();
        }

        void clear() {
            Arrays.fill(is, IS_OUT);
            Arrays.fill(cash, 0);
            Arrays.fill(debts.balance, 0);
            weeks = 0;
            arrested = 0;
            lodging = 0;
        }

        void packInto(int[] row, int from) {
            if (from < 0 || from > row.length - SIZE) return;
            System.arraycopy(is, 0, row, from, MOST_DEBTORS);
            System.arraycopy(cash, 0, row, from + MOST_DEBTORS, MOST_DEBTORS);
            System.arraycopy(debts.balance, 0, row, from + 2 * MOST_DEBTORS, Debts.SIZE);
            int rest = from + 2 * MOST_DEBTORS + Debts.SIZE;
            row[rest] = weeks;
            row[rest + 1] = arrested;
            row[rest + 2] = lodging;
        }

        void unpackFrom(int[] row, int from) {
            if (from < 0 || from > row.length - SIZE) return;
            System.arraycopy(row, from, is, 0, MOST_DEBTORS);
            System.arraycopy(row, from + MOST_DEBTORS, cash, 0, MOST_DEBTORS);
            System.arraycopy(row, from + 2 * MOST_DEBTORS, debts.balance, 0, Debts.SIZE);
            int rest = from + 2 * MOST_DEBTORS + Debts.SIZE;
            weeks = row[rest];
            arrested = row[rest + 1];
            lodging = row[rest + 2];
        }
    }

    /** The close with those who live by its rules. Callers see to it that a DEBTOR is one. */
    private static final class Town {
        final Close close;
        final Life life;

        Town() {
            close = new Close();
            life = new Life();
        }

        void begin(Close told) {
            close.take(told);
            life.clear();
        }

        int allWhoAre(int what) {
            int set = 0;
            for (int d = 0; d < close.debtors; d++) {
                if (life.is[d] == what) set |= 1 << d;
            }
            return set;
        }

        boolean isAbout(int d) {
            return life.is[d] == IS_IN || life.is[d] == IS_OUT;
        }

        // ---- deeds

        boolean mayEnter(int d) {
            return life.is[d] == IS_OUT && Integer.bitCount(allWhoAre(IS_IN)) < close.rooms;
        }

        int costToSettle(int d, int week) {
            int hundredths = close.sumOf[d] * close.acceptedBy(close.creditorOf[d], week);
            return (hundredths + 99) / 100;
        }

        boolean maySettle(int d) {
            return isAbout(d) && life.cash[d] >= costToSettle(d, life.weeks);
        }

        int payCreditor(int d) {
            int cost = costToSettle(d, life.weeks);
            addCash(d, -cost);
            life.is[d] = IS_FREE;
            return cost;
        }

        int refusalOfLoan(int d, int e, int much) {
            if (life.is[d] != IS_IN || life.is[e] != IS_IN || life.cash[d] < much) return NOT;
            return life.debts.balanceOf(e, d) + much > MOST_OWED ? FULL : 0;
        }

        void giveLoan(int d, int e, int much) {
            addCash(d, -much);
            addCash(e, much);
            life.debts.addTo(e, d, much);
        }

        boolean maySue(int d, int e) {
            return life.debts.owed(e, d) > 0 && life.is[e] == IS_IN;
        }

        int bringToCourt(int d, int e) {
            int owed = life.debts.owed(e, d);
            int paid = Math.max(0, Math.min(owed, life.cash[e]));
            addCash(e, -paid);
            addCash(d, paid);
            life.debts.addTo(e, d, -paid);
            if (paid < owed) life.is[e] = IS_BAILIES;
            return paid;
        }

        private void addCash(int d, int much) {
            life.cash[d] = bounded(life.cash[d] + much);
        }

        private static int bounded(int cash) {
            return Math.max(-MOST_CASH, Math.min(MOST_CASH, cash));
        }

        // ---- a WEEK

        /** CASH is bounded when H has come in, and again when L is paid: it is never above its bound. */
        int cashWeekLater(int cash, int d, boolean paysLodging) {
            int more = bounded(cash + close.incomeOf[d]);
            return paysLodging ? bounded(more - close.lodging) : more;
        }

        void passWeek() {
            for (int d = 0; d < close.debtors; d++) {
                if (isAbout(d)) takeAndPay(d);
            }
            arrest(arrestedNext());
            for (int d = 0; d < close.debtors; d++) {
                if (life.is[d] == IS_IN && life.cash[d] < 0) life.is[d] = IS_OUT;
            }
            life.weeks++;
        }

        private void takeAndPay(int d) {
            boolean isIn = life.is[d] == IS_IN;
            life.cash[d] = cashWeekLater(life.cash[d], d, isIn);
            if (isIn) life.lodging = Math.min(MOST_LODGING, life.lodging + close.lodging);
        }

        private void arrest(int set) {
            for (int d = 0; d < close.debtors; d++) {
                if ((set >> d & 1) == 0) continue;
                life.is[d] = IS_GAOLED;
                life.arrested++;
            }
        }

        int arrestedNext() {
            int left = allWhoAre(IS_OUT);
            int taken = 0;
            for (int b = 0; b < close.bailiffs && left != 0; b++) {
                int d = greatestOf(close.sumOf, left);
                if (d == NONE) break;
                taken |= 1 << d;
                left &= ~(1 << d);
            }
            return taken;
        }

        /** Who of the SET has most in the row, of like ones the least. */
        private int greatestOf(int[] row, int set) {
            int best = NONE;
            for (int d = 0; d < close.debtors && d < row.length; d++) {
                if ((set >> d & 1) == 0) continue;
                if (best == NONE || row[d] > row[best]) best = d;
            }
            return best;
        }

        // ---- tried

        int allSafe() {
            int set = 0;
            for (int d = 0; d < close.debtors; d++) {
                if (isSafe(d)) set |= 1 << d;
            }
            return set;
        }

        private boolean isSafe(int d) {
            if (life.is[d] == IS_OUT) return false;
            return life.is[d] != IS_IN || cashWeekLater(life.cash[d], d, true) >= 0;
        }

        int priceOfRooms() {
            int left = allWhoAre(IS_IN) | allWhoAre(IS_OUT);
            for (int r = 0; r < close.rooms && left != 0; r++) {
                int d = greatestOf(close.incomeOf, left);
                if (d == NONE) break;
                left &= ~(1 << d);
            }
            int next = greatestOf(close.incomeOf, left);
            return next == NONE ? 0 : close.incomeOf[next];
        }

        int firstWeekToSettle(int d) {
            int cash = life.cash[d];
            for (int w = 0; w <= SOON_WEEKS; w++) {
                if (cash >= costToSettle(d, life.weeks + w)) return w;
                cash = cashWeekLater(cash, d, life.is[d] == IS_IN);
            }
            return NONE;
        }

        int costOfSettlingBehind(int d, int weeks) {
            int lodging = life.is[d] == IS_IN ? close.lodging * weeks : 0;
            return lodging + costToSettle(d, life.weeks + weeks);
        }

        int cheapestWeekToSettle(int d) {
            int cash = life.cash[d];
            int best = NONE;
            int least = 0;
            for (int w = 0; w <= MOST_WEEKS; w++) {
                int cost = costOfSettlingBehind(d, w);
                boolean can = cash >= costToSettle(d, life.weeks + w);
                if (can && (best == NONE || cost < least)) {
                    best = w;
                    least = cost;
                }
                cash = cashWeekLater(cash, d, life.is[d] == IS_IN);
            }
            return best;
        }

        int creditorsAccepting(int q) {
            int set = 0;
            for (int c = 0; c < close.creditors; c++) {
                if (close.acceptedBy(c, life.weeks) <= q) set |= 1 << c;
            }
            return set;
        }

        boolean isBoundBy(int willing) {
            int all = 0;
            int theirs = 0;
            for (int d = 0; d < close.debtors; d++) {
                if (life.is[d] == IS_FREE) continue;
                all += close.sumOf[d];
                if ((willing >> close.creditorOf[d] & 1) != 0) theirs += close.sumOf[d];
            }
            return 2 * theirs > all;
        }
    }

    /** Tries all OUTINGS of some steps. */
    private static final class Walk {
        private int mostSteps;
        int bestWorth;
        int bestSteps;
        int bestFigures;

        void findBest(Close close, int t) {
            mostSteps = t;
            bestWorth = 0;
            bestSteps = 0;
            bestFigures = 0;
            goOn(close, 0, 0, NONE, 0, 0, 0);
        }

        private void goOn(Close close, int depth, int seen, int at, int worth, int steps, int figures) {
            int home = steps + close.stepsBetween(at, NONE);
            // The way home by another PLACE is never shorter: who is too late now stays too late.
            if (depth > MOST_PLACES || home > mostSteps) return;
            if (isBetter(worth, home, figures)) {
                bestWorth = worth;
                bestSteps = home;
                bestFigures = figures;
            }
            for (int p = 0; p < close.places; p++) {
                if ((seen >> p & 1) != 0) continue;
                int further = steps + close.stepsBetween(at, p);
                goOn(close, depth + 1, seen | 1 << p, p, worth + close.worth[p], further, figures * 10 + p + 1);
            }
        }

        private boolean isBetter(int worth, int steps, int figures) {
            if (worth != bestWorth) return worth > bestWorth;
            if (steps != bestSteps) return steps < bestSteps;
            return figures < bestFigures;
        }
    }

    /** What can be undone, in a ring: the oldest is lost first. */
    private static final class Past {
        private final int[] rows;
        private int next;
        int count;

        Past() {
            rows = new int[MOST_UNDONE * Life.SIZE];
        }

        void forget() {
            count = 0;
        }

        void remember(Life life) {
            life.packInto(rows, next * Life.SIZE);
            next = (next + 1) % MOST_UNDONE;
            count = Math.min(MOST_UNDONE, count + 1);
        }

        void returnTo(Life life) {
            if (count <= 0) return;
            next = (next + MOST_UNDONE - 1) % MOST_UNDONE;
            count--;
            life.unpackFrom(rows, next * Life.SIZE);
        }
    }

    /** An IMAGE to go on from. */
    private static final class Image {
        private final int[] row;
        boolean kept;
        int seed;

        Image() {
            row = new int[Life.SIZE];
        }

        void take(Life life, int seedNow) {
            life.packInto(row, 0);
            seed = seedNow;
            kept = true;
        }

        void bringBack(Life life) {
            life.unpackFrom(row, 0);
        }
    }

    /** HATS leave a run of numbers without gaps: its two ends are all that must be known. */
    private static final class Hats {
        int count;
        int least;
        int greatest;

        Hats() {
            greatest = MOST_INCHES;
        }

        void clear() {
            count = 0;
            least = 0;
            greatest = MOST_INCHES;
        }

        void add(int line, boolean wasOver) {
            if (wasOver) least = Math.max(least, line + 1);
            else greatest = Math.min(greatest, line);
            count++;
        }

        int howManyFit() {
            return Math.max(0, greatest - least + 1);
        }

        /** The line that leaves the lesser half below: any line further down leaves more above. */
        int bestLine() {
            int fit = howManyFit();
            return fit < 2 ? NONE : least + fit / 2 - 1;
        }
    }

    /** THE BOOK: what DEBTORS are said to be. */
    private static final class Book {
        private final int[] who;
        private final int[] said;
        int count;

        Book() {
            who = new int[MOST_ENTRIES];
            said = new int[MOST_ENTRIES];
        }

        void add(int d, int is) {
            if (count < 0 || count >= MOST_ENTRIES) return;
            who[count] = d;
            said[count] = is;
            count++;
        }

        int firstWrong(Life life) {
            for (int i = 0; i < count && i < MOST_ENTRIES; i++) {
                int d = who[i];
                if (d >= 0 && d < life.is.length && life.is[d] != said[i]) return i;
            }
            return NONE;
        }
    }
}
