import com.sun.management.ThreadMXBean;
import java.lang.management.ManagementFactory;

/**
 * All calls of a run live in one room, of some 600,000 objects and 7.3 million fields and elements: the
 * dearest life of an object, all its orders, rows, cells, figures and cranks, stays far below that.
 */
public final class RoomTest {
    private static final int CALLS = 512;
    private static final int CALLS_BEHIND = 6;
    /** A ninth of what 600,000 objects need at the least, which have 16 bytes each. */
    private static final long MOST_BYTES = 1L << 20;

    public static void main(String[] args) {
        if (!(ManagementFactory.getThreadMXBean() instanceof ThreadMXBean threads)
                || !threads.isThreadAllocatedMemorySupported()) {
            System.out.println("this machine does not tell what is made");
            return;
        }
        // A first life loads the classes, which is no room of the object's.
        dearestLife();
        long ahead = threads.getThreadAllocatedBytes(Thread.currentThread().getId());
        PinBarrels lived = dearestLife();
        long made = threads.getThreadAllocatedBytes(Thread.currentThread().getId()) - ahead;
        boolean wasDearest = lived.count(1) == 4000 && lived.count(2) == 120 && lived.count(3) == 3000
                && lived.count(4) == 400 && lived.count(5) == 20;
        System.out.println(made + " bytes made by " + lived.count(1) + " orders");
        if (made > MOST_BYTES || !wasDearest) {
            System.exit(1);
        }
    }

    private static PinBarrels dearestLife() {
        PinBarrels workshop = new PinBarrels();
        int calls = 0;
        calls += tuneOfFigures(workshop);
        workshop.run(300);
        workshop.run(300);
        workshop.cut(0);
        calls += 3;
        calls += tuneOfRows(workshop);
        while (calls < CALLS - CALLS_BEHIND) {
            workshop.run(300);
            calls++;
        }
        return workshop;
    }

    private static int tuneOfFigures(PinBarrels workshop) {
        for (int i = 0; i < 20; i++) {
            workshop.order(9, 3, 2 + i % 4, 0);
        }
        workshop.order(14, 0, 20, 20);
        return 21;
    }

    /** Rows until there is no room, then the same refused, splices that change all cells, and cranks. */
    private static int tuneOfRows(PinBarrels workshop) {
        int[][] orders = {
            {5, 0, 7, 25}, {13, 0, 0, 0}, {6, 1, 0, 0}, {13, 0, 0, 0}, {10, 0, 0, 9}, {2, 0, 0, 1},
            {1, 0, 1, 25}, {2, 1, 0, 3}, {9, 2, 1, 0}, {9, 2, 1, 0}, {9, 2, 1, 0}, {14, 0, 11, 20}
        };
        for (int[] order : orders) {
            workshop.order(order[0], order[1], order[2], order[3]);
        }
        return orders.length;
    }
}
