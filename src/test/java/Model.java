import java.util.ArrayDeque;
import java.util.ArrayList;
import java.util.Arrays;
import java.util.Comparator;
import java.util.Deque;
import java.util.List;
import java.util.regex.Matcher;
import java.util.regex.Pattern;

/** The document once more, written as slowly and plainly as can be, to compare the class with. */
final class Model {
    private static final int NONE = Check.NONE, UNKNOWN = Check.UNKNOWN, OUTSIDE = Check.OUTSIDE;
    private static final int NOT = Check.NOT, FULL = Check.FULL;

    /** All of section 2. */
    private static final class Now {
        int weeks, arrested, lodging;
        int[] is = new int[6];
        int[] cash = new int[6];
        int[][] owes = new int[6][6];

        Now copy() {
            Now other = new Now();
            other.weeks = weeks;
            other.arrested = arrested;
            other.lodging = lodging;
            other.is = is.clone();
            other.cash = cash.clone();
            for (int d = 0; d < 6; d++) other.owes[d] = owes[d].clone();
            return other;
        }
    }

    private final StringBuilder text = new StringBuilder();
    private int fault = NONE;
    private List<int[]> close = new ArrayList<>();
    private List<int[]> creditors = new ArrayList<>();
    private List<int[]> debtors = new ArrayList<>();
    private List<int[]> places = new ArrayList<>();
    private Now now = new Now();
    private long seed = 0;
    private final Deque<Now> past = new ArrayDeque<>();
    private final Now[] images = new Now[2];
    private final long[] imageSeeds = new long[2];
    private final List<int[]> hats = new ArrayList<>();
    private final List<int[]> book = new ArrayList<>();

    // ---- the yard

    int feed(int letter) {
        if (letter < 0 || letter > 255) return OUTSIDE;
        if (text.length() == 240) return FULL;
        return text.append((char) letter).length();
    }

    int yard() {
        String all = text.toString();
        text.setLength(0);
        List<List<int[]>> told = new ArrayList<>();
        for (int i = 0; i < 4; i++) told.add(new ArrayList<>());
        int[] wrong = read(all, told);
        fault = wrong[1];
        if (wrong[0] != 0) return -10 - wrong[0];
        close = told.get(0);
        creditors = told.get(1);
        debtors = told.get(2);
        places = told.get(3);
        now = new Now();
        past.clear();
        Arrays.fill(images, null);
        hats.clear();
        book.clear();
        return debtors.size();
    }

    private static int[] read(String all, List<List<int[]>> told) {
        int[][] least = {{0, 1, 0}, {1, 0}, {0, 1, 0}, {0, 0, 0}};
        int[][] most = {{99, 6, 6}, {100, 20}, {0, 999, 99}, {20, 20, 99}};
        int[] many = {1, 4, 6, 6};
        int kind = -1;
        List<Integer> numbers = new ArrayList<>();
        Matcher token = Pattern.compile("[0-9]+|[^ ]", Pattern.DOTALL).matcher(all);
        while (token.find()) {
            String word = token.group();
            int at = token.start();
            boolean isNumber = Character.isDigit(word.charAt(0)) && word.charAt(0) < 128;
            if (kind < 0) {
                int next = "ycdp".indexOf(word.charAt(0));
                if (next < 0 || told.get(0).isEmpty() && next > 0) return new int[] {1, at};
                if (told.get(next).size() == many[next]) return new int[] {3, at};
                kind = next;
                numbers.clear();
            } else if (numbers.size() < least[kind].length) {
                if (!isNumber) return new int[] {1, at};
                if (word.length() > 3) return new int[] {2, at};
                int value = Integer.parseInt(word);
                int bound = kind == 2 && numbers.isEmpty() ? told.get(1).size() - 1 : most[kind][numbers.size()];
                if (value < least[kind][numbers.size()] || value > bound) return new int[] {2, at};
                numbers.add(value);
            } else {
                if (!word.equals(";")) return new int[] {1, at};
                told.get(kind).add(numbers.stream().mapToInt(n -> n).toArray());
                kind = -1;
            }
        }
        return kind < 0 ? new int[] {0, NONE} : new int[] {1, all.length()};
    }

    int fault() {
        return fault;
    }

    int told(int what) {
        if (what < 0 || what > 20) return OUTSIDE;
        if (what < 3) return close.isEmpty() ? 0 : close.get(0)[what];
        List<Integer> answers = List.of(creditors.size(), debtors.size(), places.size(), text.length(), now.weeks,
                set(1), set(0), set(3));
        if (what < 11) return answers.get(what - 3);
        switch (what) {
            case 11: return set(2) + set(4);
            case 12: return arrestedBy(now);
            case 13: return safe();
            case 14: return now.arrested;
            case 15: return now.lodging;
            case 16: return price();
            case 17: return cleared();
            case 18: return hats.size();
            case 19: return book.size();
            default: return past.size();
        }
    }

    private int set(int is) {
        int bits = 0;
        for (int d = 0; d < debtors.size(); d++) if (now.is[d] == is) bits += 1 << d;
        return bits;
    }

    private int arrestedBy(Now then) {
        List<Integer> out = new ArrayList<>();
        for (int d = 0; d < debtors.size(); d++) if (then.is[d] == 0) out.add(d);
        out.sort(Comparator.comparing((Integer d) -> -debtors.get(d)[1]).thenComparing(d -> d));
        int bits = 0;
        for (int b = 0; b < Math.min(out.size(), told(2)); b++) bits += 1 << out.get(b);
        return bits;
    }

    private int safe() {
        Now then = now.copy();
        weekOf(then);
        int bits = 0;
        for (int d = 0; d < debtors.size(); d++) if (now.is[d] != 0 && then.is[d] != 0) bits += 1 << d;
        return bits;
    }

    private int price() {
        List<Integer> incomes = new ArrayList<>();
        for (int d = 0; d < debtors.size(); d++) if (now.is[d] < 2) incomes.add(debtors.get(d)[2]);
        incomes.sort(Comparator.reverseOrder());
        return incomes.size() > told(1) ? incomes.get(told(1)) : 0;
    }

    private int net(int d) {
        int sum = 0;
        for (int e = 0; e < 6; e++) sum += now.owes[e][d] - now.owes[d][e];
        return sum;
    }

    private int cleared() {
        int sum = 0;
        for (int[] row : now.owes) for (int much : row) sum += much;
        for (int d = 0; d < 6; d++) if (net(d) > 0) sum -= net(d);
        return sum;
    }

    private static boolean has(List<int[]> list, int i) {
        return 0 <= i && i < list.size();
    }

    private int accepted(int c, int week) {
        int p = creditors.get(c)[0];
        int less = p - creditors.get(c)[1] * week;
        return less < 5 ? Math.min(p, 5) : less;
    }

    int accepts(int c, int n) {
        if (!has(creditors, c)) return UNKNOWN;
        return n < 0 || n > 9999 ? OUTSIDE : accepted(c, n);
    }

    private int cost(int d, int week) {
        int all = debtors.get(d)[1] * accepted(debtors.get(d)[0], week);
        return all % 100 == 0 ? all / 100 : all / 100 + 1;
    }

    int debtor(int d, int what) {
        if (!has(debtors, d)) return UNKNOWN;
        if (what < 0 || what > 6) return OUTSIDE;
        if (what < 3) return debtors.get(d)[what];
        return new int[] {now.is[d], now.cash[d] + 10000, cost(d, now.weeks), net(d) + 10000}[what - 3];
    }

    private boolean two(int d, int e) {
        return has(debtors, d) && has(debtors, e) && d != e;
    }

    int owes(int d, int e) {
        return two(d, e) ? now.owes[d][e] : UNKNOWN;
    }

    int place(int p, int what) {
        if (!has(places, p)) return UNKNOWN;
        return what < 0 || what > 2 ? OUTSIDE : places.get(p)[what];
    }

    // ---- what is done

    private static int bound(int cash) {
        if (cash > 9999) return 9999;
        return cash < -9999 ? -9999 : cash;
    }

    private void weekOf(Now then) {
        for (int d = 0; d < debtors.size(); d++) {
            if (then.is[d] == 0 || then.is[d] == 1) then.cash[d] = bound(then.cash[d] + debtors.get(d)[2]);
        }
        for (int d = 0; d < debtors.size(); d++) {
            if (then.is[d] != 1) continue;
            then.cash[d] = bound(then.cash[d] - told(0));
            then.lodging = Math.min(999999, then.lodging + told(0));
        }
        int bits = arrestedBy(then);
        for (int d = 0; d < debtors.size(); d++) {
            if ((bits & 1 << d) == 0) continue;
            then.is[d] = 2;
            then.arrested++;
        }
        for (int d = 0; d < debtors.size(); d++) if (then.is[d] == 1 && then.cash[d] < 0) then.is[d] = 0;
        then.weeks++;
    }

    private int weeksRefused(int n) {
        if (n < 1 || n > 60) return OUTSIDE;
        if (close.isEmpty()) return NOT;
        return now.weeks > 9000 ? FULL : 0;
    }

    private void remember() {
        past.addLast(now.copy());
        if (past.size() > 16) past.removeFirst();
    }

    int week(int n) {
        if (weeksRefused(n) != 0) return weeksRefused(n);
        remember();
        for (int i = 0; i < n; i++) weekOf(now);
        return now.weeks;
    }

    private boolean enter(int d) {
        if (now.is[d] != 0 || Integer.bitCount(set(1)) >= told(1)) return false;
        now.is[d] = 1;
        return true;
    }

    private boolean leave(int d) {
        if (now.is[d] != 1) return false;
        now.is[d] = 0;
        return true;
    }

    private int pay(int d) {
        int cost = cost(d, now.weeks);
        if (now.is[d] > 1 || now.cash[d] < cost) return NOT;
        now.cash[d] -= cost;
        now.is[d] = 3;
        return cost;
    }

    private int give(int d, int e, int much) {
        if (now.is[d] != 1 || now.is[e] != 1 || now.cash[d] < much) return NOT;
        int will = now.owes[e][d] - now.owes[d][e] + much;
        if (will > 9999) return FULL;
        now.cash[d] -= much;
        now.cash[e] = bound(now.cash[e] + much);
        now.owes[e][d] = will > 0 ? will : 0;
        now.owes[d][e] = will < 0 ? -will : 0;
        return now.owes[e][d];
    }

    private int court(int d, int e) {
        if (now.owes[e][d] == 0 || now.is[e] != 1) return NOT;
        int paid = 0;
        while (paid < now.owes[e][d] && now.cash[e] - paid > 0) paid++;
        now.cash[e] -= paid;
        now.cash[d] = bound(now.cash[d] + paid);
        now.owes[e][d] -= paid;
        if (now.owes[e][d] > 0) now.is[e] = 4;
        return paid;
    }

    /** Remembers what was ahead of a deed that was not refused. */
    private int did(Now before, int answer) {
        if (answer <= UNKNOWN) return answer;
        Now behind = now;
        now = before;
        remember();
        now = behind;
        return answer;
    }

    int goIn(int d) {
        if (!has(debtors, d)) return UNKNOWN;
        Now before = now.copy();
        return did(before, enter(d) ? set(1) : NOT);
    }

    int goOut(int d) {
        if (!has(debtors, d)) return UNKNOWN;
        Now before = now.copy();
        return did(before, leave(d) ? set(0) : NOT);
    }

    int settle(int d) {
        if (!has(debtors, d)) return UNKNOWN;
        Now before = now.copy();
        return did(before, pay(d));
    }

    int lend(int d, int e, int much) {
        if (!two(d, e)) return UNKNOWN;
        if (much < 1 || much > 999) return OUTSIDE;
        Now before = now.copy();
        return did(before, give(d, e, much));
    }

    int sue(int d, int e) {
        if (!two(d, e)) return UNKNOWN;
        Now before = now.copy();
        return did(before, court(d, e));
    }

    private int draw(int n) {
        seed = (seed * 1103515245L + 12345L) % (1L << 31);
        return (int) (seed / 65536 % n);
    }

    int drift(int n) {
        if (weeksRefused(n) != 0) return weeksRefused(n);
        remember();
        for (int i = 0; i < n; i++) {
            if (!debtors.isEmpty()) deedByDraws();
            weekOf(now);
        }
        return now.arrested;
    }

    private void deedByDraws() {
        int d = draw(debtors.size());
        int what = draw(5);
        if (what == 0) enter(d);
        if (what == 1) leave(d);
        if (what == 2) pay(d);
        if (what == 3) {
            int much = draw(20) + 1;
            int e = draw(debtors.size());
            if (e != d) give(d, e, much);
        }
        if (what == 4) {
            for (int e = 0; e < debtors.size(); e++) {
                if (now.owes[e][d] == 0) continue;
                court(d, e);
                return;
            }
        }
    }

    int undo() {
        if (past.isEmpty()) return NOT;
        now = past.removeLast();
        return past.size();
    }

    // ---- tried

    private int[] cashOfWeeks(int d, int n, boolean pays) {
        int[] cash = new int[n + 1];
        cash[0] = now.cash[d];
        for (int w = 1; w <= n; w++) {
            cash[w] = bound(cash[w - 1] + debtors.get(d)[2]);
            if (pays) cash[w] = bound(cash[w] - told(0));
        }
        return cash;
    }

    int soon(int d) {
        if (!has(debtors, d)) return UNKNOWN;
        if (now.is[d] > 1) return NOT;
        int[] cash = cashOfWeeks(d, 200, now.is[d] == 1);
        for (int w = 0; w <= 200; w++) if (cash[w] >= cost(d, now.weeks + w)) return w;
        return NONE;
    }

    int cheapest(int d, int what) {
        if (!has(debtors, d)) return UNKNOWN;
        if (what < 0 || what > 1) return OUTSIDE;
        if (now.is[d] > 1) return NOT;
        int[] cash = cashOfWeeks(d, 60, now.is[d] == 1);
        int[] best = {NONE, NONE};
        for (int w = 60; w >= 0; w--) {
            int cost = cost(d, now.weeks + w);
            int together = cost + w * now.is[d] * told(0);
            if (cash[w] >= cost && (best[0] == NONE || together <= best[1])) best = new int[] {w, together};
        }
        return best[what];
    }

    int outing(int t, int what) {
        if (t < 0 || t > 99 || what < 0 || what > 2) return OUTSIDE;
        int[] best = {0, 0, 0};
        for (int[] order : orders()) {
            int[] tried = walked(order);
            if (tried[1] > t) continue;
            int compared = Integer.compare(best[0], tried[0]);
            if (compared == 0) compared = Integer.compare(tried[1], best[1]);
            if (compared == 0) compared = Integer.compare(tried[2], best[2]);
            if (compared < 0) best = tried;
        }
        return best[what];
    }

    private List<int[]> orders() {
        List<int[]> all = new ArrayList<>();
        all.add(new int[0]);
        for (int i = 0; i < all.size(); i++) {
            int[] order = all.get(i);
            for (int p = 0; p < places.size(); p++) {
                int place = p;
                if (Arrays.stream(order).anyMatch(q -> q == place)) continue;
                int[] longer = Arrays.copyOf(order, order.length + 1);
                longer[order.length] = p;
                all.add(longer);
            }
        }
        return all;
    }

    private int[] walked(int[] order) {
        int[] tried = {0, 0, 0};
        int[] at = {0, 0};
        for (int p : order) {
            int[] place = places.get(p);
            tried[0] += place[2];
            tried[1] += Math.abs(place[0] - at[0]) + Math.abs(place[1] - at[1]);
            tried[2] = Integer.parseInt(tried[2] + "" + (p + 1));
            at = place;
        }
        tried[1] += at[0] + at[1];
        return tried;
    }

    int composition(int q, int what) {
        if (q < 0 || q > 100 || what < 0 || what > 1) return OUTSIDE;
        int bits = 0;
        int theirs = 0;
        int others = 0;
        for (int c = 0; c < creditors.size(); c++) if (accepted(c, now.weeks) <= q) bits += 1 << c;
        for (int d = 0; d < debtors.size(); d++) {
            int sum = now.is[d] == 3 ? 0 : debtors.get(d)[1];
            if ((bits & 1 << debtors.get(d)[0]) != 0) theirs += sum;
            else others += sum;
        }
        return what == 0 ? bits : theirs > others ? 1 : 0;
    }

    int year(int d, int n) {
        if (!has(debtors, d)) return UNKNOWN;
        return n < 0 || n > 60 ? OUTSIDE : cashOfWeeks(d, n, true)[n] + 10000;
    }

    int chain(int d, int what) {
        if (!has(debtors, d)) return UNKNOWN;
        if (what < 0 || what > 1) return OUTSIDE;
        List<Integer> chain = new ArrayList<>();
        int next = d;
        while (next != NONE && !chain.contains(next)) {
            chain.add(next);
            int last = next;
            next = NONE;
            for (int e = 5; e >= 0; e--) {
                if (now.owes[last][e] > 0 && (next == NONE || now.owes[last][e] >= now.owes[last][next])) next = e;
            }
        }
        return what == 0 ? chain.size() : chain.get(chain.size() - 1);
    }

    int quiet(int n, int q) {
        if (n < 0 || n > 60 || q < 0 || q > 100) return OUTSIDE;
        long odds = 1000000000L;
        while (n-- > 0) odds = odds * (100 - q) / 100;
        return (int) odds;
    }

    // ---- hats

    int hat(int d, boolean over) {
        if (d < 0 || d > 60) return OUTSIDE;
        if (hats.size() == 6) return FULL;
        hats.add(new int[] {d, over ? 1 : 0});
        return hats.size();
    }

    private List<Integer> fits() {
        List<Integer> fits = new ArrayList<>();
        for (int x = 0; x <= 60; x++) {
            int number = x;
            if (hats.stream().allMatch(hat -> (number > hat[0] ? 1 : 0) == hat[1])) fits.add(x);
        }
        return fits;
    }

    int over(int what) {
        if (what < 0 || what > 2) return OUTSIDE;
        List<Integer> fits = fits();
        if (what == 0) return fits.size();
        return fits.isEmpty() ? NONE : fits.get(what == 1 ? 0 : fits.size() - 1);
    }

    int look() {
        List<Integer> fits = fits();
        int best = NONE;
        int least = fits.size();
        for (int d = 0; d <= 60; d++) {
            int line = d;
            int above = (int) fits.stream().filter(x -> x > line).count();
            int alike = Math.max(above, fits.size() - above);
            if (alike >= least) continue;
            least = alike;
            best = d;
        }
        return best;
    }

    int write(int d, int is) {
        if (!has(debtors, d)) return UNKNOWN;
        if (is < 0 || is > 4) return OUTSIDE;
        if (book.size() == 15) return FULL;
        book.add(new int[] {d, is});
        return book.size();
    }

    int tear() {
        int both = hats.size() + book.size();
        hats.clear();
        book.clear();
        return both;
    }

    int judge() {
        for (int[] entry : book) if (now.is[entry[0]] != entry[1]) return book.indexOf(entry);
        return NONE;
    }

    // ---- draws, images

    int seed(int v) {
        if (v < 0) return OUTSIDE;
        int before = (int) seed;
        seed = v;
        return before;
    }

    int keep(int i) {
        if (i != 0 && i != 1) return UNKNOWN;
        images[i] = now.copy();
        imageSeeds[i] = seed;
        past.clear();
        return 1;
    }

    int goBack(int i) {
        if (i != 0 && i != 1) return UNKNOWN;
        if (images[i] == null) return NOT;
        now = images[i].copy();
        seed = imageSeeds[i];
        past.clear();
        return 1;
    }
}
