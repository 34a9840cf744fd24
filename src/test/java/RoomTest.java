import com.sun.management.ThreadMXBean;
import java.lang.management.ManagementFactory;

/**
 * All calls of a run live in one room, of some 600,000 objects and 7.3 million fields and elements: the
 * dearest life of an object, all its orders, rows, cells, figures and cranks, stays far below that.
 */
public final class RoomTest {
    private static final int CALLS = 512;
    private static final int CALLS_BEHIND = 6;
    private static final int WORN_OUT = 6;
    /** A ninth of what 600,000 objects need at the least, which have 16 bytes each. */
    private static final long MOST_BYTES = 1L << 20;

    public static void main(String[] args) {
        if (!(ManagementFactory.getThreadMXBean() instanceof ThreadMXBean threads)
                || !threads.isThreadAllocatedMemorySupported()) {
            System.out.println("this machine does not tell what is made");
            return;
        }
        // A first life loads the classes, which is no room of the object's.
        dearestLife();
        long ahead = threads.getThreadAllocatedBytes(Thread.currentThread().getId());
        PinBarrels lived = dearestLife();
        long made = threads.getThreadAllocatedBytes(Thread.currentThread().getId()) - ahead;
        boolean wasDearest = lived.count(1) == 4000 && lived.count(2) == 120 && lived.count(3) == 3000
                && lived.count(4) == 400 && lived.count(5) == 20;
        System.out.println(made + " bytes made by " + lived.count(1) + " orders");
        if (made > MOST_BYTES || !wasDearest) {
            System.exit(1);
        }
    }

    /** Figures and rows up to their limits, then a crank by every order that is left. */
    private static PinBarrels dearestLife() {
        PinBarrels workshop = new PinBarrels();
        int calls = 0;
        calls += runOf(workshop, 2, new int[][] {
            {9, 3, 2, 0}, {9, 3, 3, 0}, {9, 3, 4, 0}, {9, 3, 5, 0}, {14, 0, 4, 20}, {14, 0, 5, 20}
        });
        calls += runOf(workshop, 2, new int[][] {
            {5, 0, 7, 25}, {10, 0, 0, 9}, {6, 1, 0, 0}, {2, 1, 0, 1}, {14, 0, 4, 20}, {14, 0, 5, 20}
        });
        calls += runOf(workshop, CALLS, new int[][] {{9, 2, 1, 0}, {9, 2, 1, 0}, {14, 0, 2, 20}, {14, 0, 3, 20}});
        if (calls > CALLS - CALLS_BEHIND) {
            System.out.println("the test makes more calls than an object is used for");
            System.exit(1);
        }
        return workshop;
    }

    /** Runs these orders alone, at most so many times; how many calls it made. */
    private static int runOf(PinBarrels workshop, int times, int[][] orders) {
        workshop.cut(0);
        for (int[] order : orders) {
            workshop.order(order[0], order[1], order[2], order[3]);
        }
        int runs = 0;
        int answer = 0;
        while (runs < times && answer != WORN_OUT) {
            answer = workshop.run(300);
            runs++;
        }
        return 1 + orders.length + runs;
    }
}
