import com.sun.management.ThreadMXBean;
import java.lang.management.ManagementFactory;

/** All calls of one run live in one room: the rows are made with the yard, and no call makes an object. */
public final class RoomTest {
    private static final int TRIES = 20;
    private static final long MOST_BYTES_OF_A_YARD = 16000;
    private static final String TEXT = "y5 3 1;c50 5;c4 0;d0 100 90;d0 90 90;d0 999 9;d1 25 90;d0 80 9;d0 1 0;p3 4 10;p9 9 9;p20 0 7;";

    private static final ThreadMXBean THREADS = (ThreadMXBean) ManagementFactory.getThreadMXBean();

    public static void main(String[] args) {
        if (THREADS.isThreadAllocatedMemorySupported() && THREADS.isThreadAllocatedMemoryEnabled()) {
            long made = Long.MAX_VALUE;
            long called = Long.MAX_VALUE;
            // The machine itself makes things while it warms up: the least of several tries is the class's own.
            for (int i = 0; i < TRIES; i++) {
                long first = THREADS.getCurrentThreadAllocatedBytes();
                PalaceYard yard = new PalaceYard();
                long second = THREADS.getCurrentThreadAllocatedBytes();
                callAll(yard);
                long third = THREADS.getCurrentThreadAllocatedBytes();
                made = Math.min(made, second - first);
                called = Math.min(called, third - second);
            }
            Check.due("a yard of " + made + " bytes is small", made <= MOST_BYTES_OF_A_YARD ? 1 : 0, 1);
            Check.due("bytes that calls made", called, 0);
        }
        Check.end();
    }

    private static void callAll(PalaceYard x) {
        for (int i = 0; i < TEXT.length(); i++) x.feed(TEXT.charAt(i));
        x.yard();
        x.fault();
        for (int what = -1; what <= 21; what++) x.told(what);
        for (int i = 0; i < 5; i++) doAll(x);
        for (int d = -1; d <= 6; d++) askAll(x, d);
        x.keep(0);
        x.week(60);
        x.goBack(0);
        x.tear();
        x.feed('x');
        x.yard();
    }

    private static void doAll(PalaceYard x) {
        x.goIn(0);
        x.goIn(1);
        x.goIn(4);
        x.week(1);
        x.settle(3);
        x.lend(0, 4, 40);
        x.lend(4, 1, 20);
        x.sue(0, 4);
        x.goOut(1);
        x.drift(3);
        x.undo();
        x.seed(7);
        x.hat(20, true);
        x.write(0, 1);
        x.judge();
        x.look();
    }

    private static void askAll(PalaceYard x, int d) {
        x.accepts(d, 3);
        x.debtor(d, 5);
        x.owes(d, 0);
        x.place(d, 1);
        x.soon(d);
        x.cheapest(d, 1);
        x.outing(99, 2);
        x.composition(50, 1);
        x.year(d, 60);
        x.chain(d, 0);
        x.quiet(60, 1);
        x.over(1);
    }
}
