/** Promise 6: back(), and what is written into the book. */
public final class BackTest {
    public static void main(String[] args) {
        takesBackInTurn();
        keepsTheLatestTwenty();
        everyOrderThatChanges();
        whatChangesNothing();
        refusedSplice();
        rowThatNoSpindleHolds();
        ordersOfRuns();
        fullAndEmptiedOften();
        Probe.end();
    }

    private static void takesBackInTurn() {
        Probe p = new Probe("in turn");
        p.back(false);
        p.act(Probe.DONE, Probe.MAKE, 0, 4, 2);
        p.act(Probe.DONE, Probe.MAKE, 1, 5, 3);
        p.back(false);
        p.act(Probe.DONE, Probe.PIN, 0, 0, 7);
        p.act(Probe.DONE, Probe.PIN, 1, 0, 8);
        p.act(Probe.DONE, Probe.TURN, 0, 0, 1);
        p.count(3, 5);
        p.back(true);
        p.row(0, 7, 0);
        p.row(1, 8, 0, 0);
        p.back(true);
        p.row(0, 7, 0);
        p.row(1, 0, 0, 0);
        p.count(1, 5);
        p.act(Probe.DONE, Probe.PIN, 0, 0, 9);
        p.count(2, 5);
        p.back(true);
        p.row(0, 7, 0);
        p.back(true);
        p.row(0, 0, 0);
        p.back(false);
        p.count(0, 5);
        p.count(6, 1);
    }

    private static void keepsTheLatestTwenty() {
        Probe p = new Probe("latest twenty");
        p.act(Probe.DONE, Probe.MAKE, 0, 4, 1);
        for (int i = 1; i <= 25; i++) {
            p.act(Probe.DONE, Probe.PIN, 0, 0, i);
            p.count(Math.min(i, 20), 5);
        }
        for (int i = 24; i >= 5; i--) {
            p.back(true);
            p.row(0, i);
        }
        p.back(false);
        p.row(0, 5);
        p.count(0, 5);
    }

    private static void everyOrderThatChanges() {
        Probe p = new Probe("every order that changes");
        p.numbers(0, 4, 1, 2, 3);
        p.numbers(1, 4, 4, 5, 6);
        takenBack(p, Probe.SPLICE, 1, 0, 2, 4, 5, 3);
        takenBack(p, Probe.TURN, 0, 0, 1, 2, 3, 1);
        takenBack(p, Probe.OPEN, 0, 0, 1, 0, 1, 2);
        takenBack(p, Probe.SHUT, 0, 0, 1, 2, 3, 0);
        takenBack(p, Probe.PIN, 0, 0, 9, 9, 2, 3);
        p.row(1, 4, 5, 6);
        p.figures(0, 8, 1, 1, 1);
        p.act(Probe.DONE, Probe.HANG, 2, 5, 0);
        takenBack(p, Probe.SEAT, 0, 2, 0, 4, 2, 3);
    }

    private static void takenBack(Probe p, int code, int a, int b, int c, long... behind) {
        long[] ahead = {p.cellNow(0, 0), p.cellNow(0, 1), p.cellNow(0, 2)};
        int kept = p.counted(5);
        p.act(Probe.DONE, code, a, b, c);
        p.row(0, behind);
        p.count(kept + 1, 5);
        p.back(true);
        p.row(0, ahead);
        p.count(kept, 5);
    }

    private static void whatChangesNothing() {
        Probe p = new Probe("what changes nothing");
        p.act(Probe.DONE, Probe.MAKE, 0, 6, 3);
        p.act(Probe.DONE, Probe.MAKE, 1, 6, 3);
        p.act(Probe.DONE, Probe.PIN, 0, 0, 0);
        p.act(Probe.DONE, Probe.TURN, 0, 0, 1);
        p.act(Probe.DONE, Probe.OPEN, 0, 0, 2);
        p.act(Probe.DONE, Probe.SHUT, 0, 0, 2);
        p.act(Probe.DONE, Probe.SPLICE, 0, 1, 3);
        p.act(Probe.DONE, Probe.TWIN, 2, 0, 0);
        p.act(Probe.DONE, Probe.SHARE, 3, 0, 0);
        p.act(Probe.DONE, Probe.SWAP, 0, 1, 0);
        p.act(Probe.DONE, Probe.MARK, 0, 0, 1);
        p.act(Probe.PLACE, Probe.SPLICE, 0, 1, 3);
        p.act(Probe.DONE, Probe.MAKE, 4, 10, 2);
        p.act(Probe.DONE, Probe.SEAT, 4, 9, 0);
        p.act(Probe.DONE, Probe.LIFT, 4, 8, 0);
        p.act(Probe.DONE, Probe.HANG, 0, 0, 0);
        p.count(0, 5);
        p.back(false);
        // 16777217 is no float: the nearest one is there already.
        p.mark(1, 0);
        p.act(Probe.DONE, Probe.PIN, 1, 0, 16777216);
        p.act(Probe.DONE, Probe.PIN, 1, 0, 16777217);
        p.count(1, 5);
    }

    private static void refusedSplice() {
        Probe p = new Probe("refused splice");
        p.figures(0, 8, 2, 1);
        p.figures(1, 9, 3, 3);
        p.act(Probe.STORE, Probe.SPLICE, 0, 1, 2);
        p.row(1, 1, 4);
        p.count(5, 5);
        p.act(Probe.STORE, Probe.SPLICE, 0, 1, 2);
        p.count(5, 5);
        p.back(true);
        p.row(1, 3, 4);
        p.row(0, 1, 2);
        p.mark(0, 1);
        p.act(Probe.STORE, Probe.SPLICE, 0, 1, 1);
        p.count(4, 5);
    }

    private static void rowThatNoSpindleHolds() {
        Probe p = new Probe("row that no spindle holds");
        p.numbers(0, 4, 3);
        p.numbers(1, 4, 5, 6);
        p.act(Probe.DONE, Probe.PIN, 0, 0, 4);
        p.act(Probe.DONE, Probe.MAKE, 0, 4, 1);
        p.back(true);
        p.row(0, 0);
        p.row(1, 5, 6);
        p.act(Probe.DONE, Probe.SWAP, 1, 7, 0);
        p.back(true);
        p.row(7, 5, 0);
    }

    private static void ordersOfRuns() {
        Probe p = new Probe("orders of runs");
        p.numbers(0, 4, 1, 2, 3);
        p.tune(Probe.TURN, 0, 0, 1, Probe.MARK, 1, 0, 4, Probe.TURN, 0, 0, 1, Probe.TURN, 9, 0, 1);
        p.run(Probe.NOTHING, 300);
        p.row(0, 3, 1, 2);
        p.count(5, 5);
        p.back(true);
        p.row(0, 2, 3, 1);
        p.back(true);
        p.row(0, 1, 2, 3);
        p.look(4, 1, 2);
        p.count(4 + 3 + 4 + 1, 1);
    }

    private static void fullAndEmptiedOften() {
        Probe p = new Probe("full and emptied");
        p.act(Probe.DONE, Probe.MAKE, 0, 4, 64);
        p.tune(Probe.PIN, 0, 0, 1, Probe.TURN, 0, 0, 1, Probe.AGAIN, 0, 1, 20);
        for (int i = 0; i < 4; i++) {
            p.run(0, 300);
            for (int k = 0; k < 13 + i; k++) {
                p.back(true);
            }
            p.count(20 - 13 - i, 5);
        }
        for (int k = 0; k < 4; k++) {
            p.back(true);
        }
        p.back(false);
    }
}
