/** Promise 4: act() for MARK and for the orders that change what spindles hold. */
public final class ActThingsTest {
    public static void main(String[] args) {
        mark();
        make();
        roomForRows();
        roomForCells();
        twin();
        twinWithoutRoom();
        shareAndSwap();
        hang();
        roomForFigures();
        Probe.end();
    }

    private static void mark() {
        Probe p = new Probe("mark");
        for (int c : new int[] {5, 0, -1, Probe.MAX, Probe.MIN}) {
            p.act(Probe.DONE, Probe.MARK, 9, 0, c);
            p.look(c, 9, 2);
            p.look(0, 8, 2);
        }
    }

    private static void make() {
        Probe p = new Probe("make");
        for (int kind = 0; kind < 12; kind++) {
            p.act(Probe.DONE, Probe.MAKE, 3, kind, kind);
            p.look(kind, 3, 0);
            p.row(3, new long[kind]);
        }
        p.count(12, 2);
        p.count(66, 3);
        p.act(Probe.SIZE, Probe.MAKE, 3, 0, -1);
        p.act(Probe.SIZE, Probe.MAKE, 3, 0, Probe.MIN);
        p.act(Probe.ROOM, Probe.MAKE, 3, 0, 65);
        p.act(Probe.ROOM, Probe.MAKE, 3, 0, Probe.MAX);
        p.look(11, 3, 0);
        p.act(Probe.DONE, Probe.MAKE, 3, 0, 64);
        p.look(64, 3, 1);
        p.act(Probe.DONE, Probe.MAKE, 3, 5, 0);
        p.row(3);
        p.count(14, 2);
        p.count(130, 3);
        p.count(0, 5);
    }

    private static void roomForRows() {
        Probe p = new Probe("room for rows");
        p.tune(Probe.MAKE, 0, 4, 1, Probe.AGAIN, 0, 1, 19);
        for (int i = 0; i < 5; i++) {
            p.run(0, 300);
        }
        p.cut(true, 1);
        for (int i = 0; i < 19; i++) {
            p.run(0, 1);
        }
        p.count(119, 2);
        p.act(Probe.DONE, Probe.TWIN, 1, 0, 0);
        p.count(120, 2);
        p.act(Probe.ROOM, Probe.MAKE, 2, 4, 0);
        p.act(Probe.SIZE, Probe.MAKE, 2, 4, -1);
        p.act(Probe.ROOM, Probe.TWIN, 2, 0, 0);
        p.look(Probe.NONE, 2, 0);
        p.count(120, 2);
        p.count(120, 3);
        // What is held no longer was made all the same.
        p.act(Probe.DONE, Probe.HANG, 0, 0, 0);
        p.act(Probe.ROOM, Probe.MAKE, 2, 4, 0);
        p.act(Probe.DONE, Probe.HANG, 2, 2, 0);
    }

    private static void roomForCells() {
        Probe p = new Probe("room for cells");
        for (int i = 0; i < 46; i++) {
            p.act(Probe.DONE, Probe.MAKE, 0, 4, 64);
        }
        p.count(2944, 3);
        p.act(Probe.ROOM, Probe.MAKE, 1, 4, 57);
        p.act(Probe.ROOM, Probe.TWIN, 1, 0, 0);
        p.look(Probe.NONE, 1, 0);
        p.act(Probe.DONE, Probe.MAKE, 1, 4, 56);
        p.count(3000, 3);
        p.act(Probe.ROOM, Probe.MAKE, 1, 4, 1);
        p.act(Probe.DONE, Probe.MAKE, 1, 4, 0);
        p.act(Probe.DONE, Probe.TWIN, 2, 1, 0);
        p.count(49, 2);
        p.count(3000, 3);
    }

    private static void twin() {
        Probe p = new Probe("twin");
        p.act(Probe.NOTHING, Probe.TWIN, 1, 0, 0);
        p.act(Probe.DONE, Probe.HANG, 0, 1, 0);
        p.act(Probe.STORE, Probe.TWIN, 1, 0, 0);
        p.act(Probe.DONE, Probe.HANG, 0, 5, 0);
        p.act(Probe.STORE, Probe.TWIN, 1, 0, 0);
        p.numbers(0, 3, 7, -8, 9);
        p.act(Probe.DONE, Probe.HANG, 1, 1, 0);
        p.act(Probe.DONE, Probe.TWIN, 1, 0, 0);
        p.look(3, 1, 0);
        p.row(1, 7, -8, 9);
        p.look(1, 1, 3);
        p.act(Probe.DONE, Probe.TURN, 1, 0, 1);
        p.row(0, 7, -8, 9);
        p.row(1, -8, 9, 7);
        p.act(Probe.DONE, Probe.SHARE, 2, 0, 0);
        p.act(Probe.DONE, Probe.TWIN, 0, 0, 0);
        p.look(0, 0, 3);
        p.look(2, 2, 3);
        p.row(0, 7, -8, 9);
        p.count(3, 2);
        p.count(9, 3);
        p.figures(4, 9, 3, 0, 2);
        p.act(Probe.DONE, Probe.TWIN, 5, 4, 0);
        p.look(9, 5, 0);
        p.row(5, 2, 0, 3);
    }

    private static void twinWithoutRoom() {
        Probe p = new Probe("twin without room");
        p.tune(Probe.MAKE, 0, 4, 0, Probe.AGAIN, 0, 1, 19);
        for (int i = 0; i < 6; i++) {
            p.run(0, 300);
        }
        p.count(120, 2);
        p.act(Probe.NOTHING, Probe.TWIN, 1, 2, 0);
        p.act(Probe.DONE, Probe.HANG, 2, 1, 0);
        p.act(Probe.STORE, Probe.TWIN, 1, 2, 0);
        p.act(Probe.ROOM, Probe.TWIN, 1, 0, 0);
    }

    private static void shareAndSwap() {
        Probe p = new Probe("share and swap");
        p.numbers(0, 4, 1, 2);
        p.mark(0, 1);
        p.act(Probe.DONE, Probe.SHARE, 1, 0, 0);
        p.look(0, 1, 3);
        p.look(0, 1, 2);
        p.act(Probe.DONE, Probe.PIN, 1, 0, 9);
        p.row(0, 9, 2);
        p.act(Probe.DONE, Probe.HANG, 2, 3, 0);
        p.act(Probe.DONE, Probe.SWAP, 0, 2, 0);
        p.look(14, 0, 0);
        p.row(2, 9, 2);
        p.look(1, 0, 2);
        p.look(0, 2, 2);
        p.look(1, 2, 3);
        p.act(Probe.DONE, Probe.SWAP, 0, 3, 0);
        p.look(Probe.NONE, 0, 0);
        p.look(14, 3, 0);
        p.act(Probe.DONE, Probe.SWAP, 3, 3, 0);
        p.look(14, 3, 0);
        p.act(Probe.DONE, Probe.SHARE, 3, 3, 0);
        p.look(14, 3, 0);
        p.act(Probe.DONE, Probe.SHARE, 3, 0, 0);
        p.look(Probe.NONE, 3, 0);
        p.count(0, 6);
    }

    private static void hang() {
        Probe p = new Probe("hang");
        p.act(Probe.DONE, Probe.HANG, 0, 1, 0);
        p.look(12, 0, 0);
        p.look(Probe.NONE, 0, 1);
        p.act(Probe.DONE, Probe.HANG, 1, 1, 0);
        p.look(1, 1, 3);
        for (int sort = 1; sort <= 4; sort++) {
            p.act(Probe.DONE, Probe.HANG, 2, sort + 1, 0);
            p.look(12 + sort, 2, 0);
            p.look(sort, 2, 1);
            p.sort(sort, sort);
        }
        p.act(Probe.DONE, Probe.HANG, 2, 0, 0);
        p.look(Probe.NONE, 2, 0);
        p.act(Probe.DONE, Probe.HANG, 2, 0, 0);
        p.count(4, 4);
    }

    private static void roomForFigures() {
        Probe p = new Probe("room for figures");
        p.tune(Probe.HANG, 0, 2, 0, Probe.AGAIN, 0, 1, 19);
        for (int i = 0; i < 19; i++) {
            p.run(0, 300);
        }
        p.cut(true, 1);
        for (int i = 0; i < 19; i++) {
            p.run(0, 300);
        }
        p.count(399, 4);
        p.act(Probe.DONE, Probe.HANG, 0, 5, 0);
        p.look(400, 0, 1);
        p.act(Probe.ROOM, Probe.HANG, 0, 2, 0);
        p.act(Probe.ROOM, Probe.HANG, 1, 5, 0);
        p.look(400, 0, 1);
        p.look(Probe.NONE, 1, 0);
        p.sort(4, 400);
        p.sort(Probe.NONE, 401);
        p.count(400, 4);
        p.act(Probe.DONE, Probe.HANG, 0, 1, 0);
        p.act(Probe.DONE, Probe.HANG, 0, 0, 0);
        p.act(Probe.DONE, Probe.MAKE, 0, 11, 1);
    }
}
