/** Promise 4: act() for what is no order as told, and for a workshop that is worn out. */
public final class ActWrongTest {
    public static void main(String[] args) {
        noOrder();
        wornOut();
        Probe.end();
    }

    private static void noOrder() {
        Probe p = new Probe("no order");
        for (int code : new int[] {-1, 13, 14, 15, Probe.MIN, Probe.MAX}) {
            p.act(Probe.NONE, code, 1, 1, 1);
        }
        for (int code = 0; code <= 12; code++) {
            p.act(Probe.NONE, code, -1, 0, 0);
            p.act(Probe.NONE, code, 10, 0, 0);
        }
        for (int code : new int[] {Probe.SPLICE, Probe.TWIN, Probe.SHARE, Probe.SWAP, Probe.SEAT, Probe.LIFT}) {
            p.act(Probe.NONE, code, 0, -1, 0);
            p.act(Probe.NONE, code, 0, 10, 0);
        }
        p.act(Probe.NONE, Probe.MAKE, 0, -1, 1);
        p.act(Probe.NONE, Probe.MAKE, 0, 12, 1);
        p.act(Probe.NONE, Probe.HANG, 0, -1, 0);
        p.act(Probe.NONE, Probe.HANG, 0, 6, 0);
        for (int what = 0; what < 9; what++) {
            p.count(0, what);
        }
        p.look(Probe.NONE, 0, 0);
        // What isn't told is any.
        p.act(Probe.DONE, Probe.MARK, 0, Probe.MIN, Probe.MAX);
        p.act(Probe.NOTHING, Probe.TURN, 9, 99, Probe.MIN);
        p.act(Probe.DONE, Probe.SHARE, 9, 0, Probe.MIN);
        p.act(Probe.DONE, Probe.HANG, 9, 1, Probe.MIN);
        p.count(4, 1);
    }

    private static void wornOut() {
        Probe p = new Probe("worn out");
        p.numbers(0, 4, 1, 2);
        p.wear(3999 - p.counted(1));
        p.count(3999, 1);
        p.act(Probe.NOTHING, Probe.TURN, 5, 0, 1);
        p.count(4000, 1);
        p.count(1, 6);
        p.act(Probe.WORN_OUT, Probe.TURN, 5, 0, 1);
        p.act(Probe.WORN_OUT, Probe.TURN, 0, 0, 1);
        p.act(Probe.WORN_OUT, Probe.MARK, 0, 0, 1);
        p.act(Probe.WORN_OUT, Probe.MAKE, 0, 0, -1);
        p.act(Probe.NONE, Probe.MAKE, 0, 12, 1);
        p.act(Probe.NONE, Probe.WHEN, 0, 0, 0);
        p.row(0, 1, 2);
        p.look(0, 0, 2);
        p.count(4000, 1);
        p.count(1, 6);
        p.back(true);
        p.row(0, 1, 0);
        p.order(0, Probe.MARK, 0, 0, 0);
        p.cut(true, 0);
    }
}
