/** A yard whose calls are counted: nothing is promised behind the 512th, so no test may ask for more. */
final class Counted {
    private static final int MOST_CALLS = 512;

    private final PalaceYard yard = new PalaceYard();
    private int calls = 0;

    private PalaceYard next() {
        calls++;
        if (calls > MOST_CALLS) throw new IllegalStateException("the test asks for more than " + MOST_CALLS + " calls");
        return yard;
    }

    int callsLeft() {
        return MOST_CALLS - calls;
    }

    int feed(int letter) {
        return next().feed(letter);
    }

    int yard() {
        return next().yard();
    }

    int fault() {
        return next().fault();
    }

    int told(int what) {
        return next().told(what);
    }

    int accepts(int c, int n) {
        return next().accepts(c, n);
    }

    int debtor(int d, int what) {
        return next().debtor(d, what);
    }

    int owes(int d, int e) {
        return next().owes(d, e);
    }

    int place(int p, int what) {
        return next().place(p, what);
    }

    int week(int n) {
        return next().week(n);
    }

    int goIn(int d) {
        return next().goIn(d);
    }

    int goOut(int d) {
        return next().goOut(d);
    }

    int settle(int d) {
        return next().settle(d);
    }

    int lend(int d, int e, int much) {
        return next().lend(d, e, much);
    }

    int sue(int d, int e) {
        return next().sue(d, e);
    }

    int drift(int n) {
        return next().drift(n);
    }

    int undo() {
        return next().undo();
    }

    int soon(int d) {
        return next().soon(d);
    }

    int cheapest(int d, int what) {
        return next().cheapest(d, what);
    }

    int outing(int t, int what) {
        return next().outing(t, what);
    }

    int composition(int q, int what) {
        return next().composition(q, what);
    }

    int year(int d, int n) {
        return next().year(d, n);
    }

    int chain(int d, int what) {
        return next().chain(d, what);
    }

    int quiet(int n, int q) {
        return next().quiet(n, q);
    }

    int hat(int d, boolean over) {
        return next().hat(d, over);
    }

    int over(int what) {
        return next().over(what);
    }

    int look() {
        return next().look();
    }

    int write(int d, int is) {
        return next().write(d, is);
    }

    int tear() {
        return next().tear();
    }

    int judge() {
        return next().judge();
    }

    int seed(int v) {
        return next().seed(v);
    }

    int keep(int i) {
        return next().keep(i);
    }

    int goBack(int i) {
        return next().goBack(i);
    }
}
