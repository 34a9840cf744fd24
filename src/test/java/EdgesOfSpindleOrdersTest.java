/** ==== 3, MARK, MAKE, TWIN, SHARE, SWAP, HANG: a test of its own for each sentence that names an edge of theirs. */
public final class EdgesOfSpindleOrdersTest {
    public static void main(String[] args) {
        whatIsNotToldIsAny();
        mark();
        makeEveryKind();
        makeRefused();
        twin();
        twinOfItself();
        twinRefused();
        share();
        swap();
        hang();
        hangRefused();
        Probe.end();
    }

    private static void whatIsNotToldIsAny() {
        Probe p = new Probe("what isn't told is any.");
        p.numbers(0, 4, 1, 2);
        for (int any : new int[] {-1, 10, Probe.MIN, Probe.MAX}) {
            p.act(Probe.DONE, Probe.MARK, 0, any, 0);
            p.act(Probe.DONE, Probe.TURN, 0, any, 0);
            p.act(Probe.DONE, Probe.OPEN, 0, any, 0);
            p.act(Probe.DONE, Probe.SHUT, 0, any, 0);
            p.act(Probe.DONE, Probe.TWIN, 1, 0, any);
            p.act(Probe.DONE, Probe.SHARE, 2, 0, any);
            p.act(Probe.DONE, Probe.SWAP, 2, 1, any);
            p.act(Probe.DONE, Probe.HANG, 3, 2, any);
            p.act(Probe.DONE, Probe.PIN, 0, any, 1);
            p.act(Probe.DONE, Probe.MAKE, 4, 8, 1);
            p.act(Probe.DONE, Probe.SEAT, 4, 3, any);
            p.act(Probe.DONE, Probe.LIFT, 4, 5, any);
            p.cut(true, 0);
            p.order(0, Probe.WHEN, 0, any, 0);
            p.order(1, Probe.AGAIN, any, 1, 0);
            p.run(0, 2);
        }
        p.row(0, 1, 2);
    }

    private static void mark() {
        Probe p = new Probe("a's MARK becomes c.");
        p.make(Probe.DONE, 0, 4, 2);
        p.share(1, 0);
        for (int c : new int[] {Probe.MIN, -1, 0, 2, 3, 64, Probe.MAX}) {
            p.mark(1, c);
            p.look(c, 1, 2);
            p.look(0, 0, 2);
        }
        // It is the spindle's, not the row's.
        p.mark(0, 5);
        p.swap(0, 1);
        p.look(5, 0, 2);
        p.look(Probe.MAX, 1, 2);
        p.share(0, 1);
        p.look(5, 0, 2);
    }

    private static void makeEveryKind() {
        Probe p = new Probe("a holds a new ROW of KIND b (0 .. 11) and LENGTH c");
        for (int kind = 0; kind <= 11; kind++) {
            p.make(Probe.DONE, kind % 10, kind, 64 - kind);
            p.look(kind, kind % 10, 0);
            p.look(64 - kind, kind % 10, 1);
        }
        p.make(Probe.NONE, 0, -1, 1);
        p.make(Probe.NONE, 0, 12, 1);
        p.make(Probe.DONE, 0, 11, 0);
        p.share(1, 0);
        p.make(Probe.DONE, 0, 11, 0);
        p.look(1, 1, 3);
        p.count(14, 2);
    }

    private static void makeRefused() {
        Probe p = new Probe("SIZE (c below 0); ROOM.");
        p.make(Probe.SIZE, 0, 4, -1);
        p.make(Probe.SIZE, 0, 4, Probe.MIN);
        p.look(Probe.NONE, 0, 0);
        p.make(Probe.DONE, 0, 4, 0);
        p.make(Probe.ROOM, 0, 4, 65);
        p.make(Probe.ROOM, 0, 4, Probe.MAX);
        p.make(Probe.DONE, 0, 4, 64);
    }

    private static void twin() {
        Probe p = new Probe("a holds a new ROW of the KIND, LENGTH and CELLS of b's");
        p.numbers(0, 6, 7, 0, -8);
        p.mark(0, 2);
        p.twin(Probe.DONE, 1, 0);
        p.look(6, 1, 0);
        p.row(1, 0x40e00000L, 0, 0xffffffffc1000000L);
        p.look(0, 1, 2);
        p.pin(Probe.DONE, 0, 0);
        p.cell(0xffffffffc1000000L, 1, 2);
        p.turn(Probe.DONE, 1, 1);
        p.cell(0x40e00000L, 0, 0);
        for (int length : new int[] {0, 64}) {
            p.make(Probe.DONE, 2, 9, length);
            p.twin(Probe.DONE, 3, 2);
            p.look(9, 3, 0);
            p.look(length, 3, 1);
            p.look(3, 3, 3);
        }
        p.count(6, 2);
        p.count(6 + 128, 3);
    }

    private static void twinOfItself() {
        Probe p = new Probe("a and b one spindle | a holds a new ROW of the KIND, LENGTH and CELLS of b's");
        p.numbers(5, 4, 1, 2);
        p.share(6, 5);
        p.twin(Probe.DONE, 5, 5);
        p.row(5, 1, 2);
        p.look(6, 6, 3);
        p.pin(Probe.DONE, 5, 9);
        p.row(6, 1, 2);
    }

    private static void twinRefused() {
        Probe p = new Probe("TWIN | NOTHING; STORE (no ROW); ROOM.");
        p.make(Probe.DONE, 0, 4, 64);
        p.twin(Probe.NOTHING, 0, 1);
        for (int what = 1; what <= 5; what++) {
            p.hang(Probe.DONE, 1, what);
            p.twin(Probe.STORE, 0, 1);
        }
        // What a holds is of no weight.
        p.twin(Probe.DONE, 1, 0);
        p.twin(Probe.DONE, 2, 0);
        p.tune(Probe.TWIN, 1, 0, 0, Probe.AGAIN, 0, 1, 20);
        p.run(0, 300);
        p.run(0, 300);
        p.run(Probe.ROOM, 300);
        p.count(46, 2);
        p.twin(Probe.ROOM, 3, 0);
        p.look(Probe.NONE, 3, 0);
    }

    private static void share() {
        Probe p = new Probe("a holds what b holds.");
        p.numbers(0, 4, 1);
        p.hang(Probe.DONE, 1, 1);
        p.hang(Probe.DONE, 2, 4);
        for (int b = 0; b < 3; b++) {
            p.share(9, b);
            p.look(b, 9, 3);
            p.share(9, 9);
            p.look(b, 9, 3);
        }
        p.share(2, 8);
        p.look(Probe.NONE, 2, 0);
        p.look(15, 9, 0);
        p.share(2, 8);
        p.look(Probe.NONE, 2, 0);
        p.count(1, 2);
        p.count(1, 4);
    }

    private static void swap() {
        Probe p = new Probe("a and b hold what the other one held.");
        p.numbers(0, 4, 1);
        p.hang(Probe.DONE, 1, 1);
        p.swap(0, 1);
        p.look(12, 0, 0);
        p.row(1, 1);
        p.swap(1, 9);
        p.look(Probe.NONE, 1, 0);
        p.row(9, 1);
        p.swap(1, 9);
        p.row(1, 1);
        p.look(Probe.NONE, 9, 0);
        p.swap(1, 1);
        p.row(1, 1);
        p.swap(8, 9);
        p.look(Probe.NONE, 8, 0);
        p.look(Probe.NONE, 9, 0);
        p.share(2, 1);
        p.swap(1, 2);
        p.look(1, 2, 3);
    }

    private static void hang() {
        Probe p = new Probe("a holds, by b: 0 nothing, 1 a new CRANK, 2 .. 5 a new FIGURE of SORT 1 .. 4");
        p.hang(Probe.DONE, 0, 0);
        p.look(Probe.NONE, 0, 0);
        p.hang(Probe.DONE, 0, 1);
        p.share(1, 0);
        p.hang(Probe.DONE, 0, 1);
        p.look(1, 1, 3);
        p.look(12, 0, 0);
        p.count(0, 4);
        for (int what = 2; what <= 5; what++) {
            p.hang(Probe.DONE, 0, what);
            p.look(11 + what, 0, 0);
            p.look(what - 1, 0, 1);
        }
        p.hang(Probe.DONE, 0, 0);
        p.look(Probe.NONE, 0, 0);
        p.hang(Probe.NONE, 0, -1);
        p.hang(Probe.NONE, 0, 6);
        p.count(4, 4);
    }

    private static void hangRefused() {
        Probe p = new Probe("HANG | ROOM.");
        p.tune(Probe.HANG, 0, 3, 0, Probe.AGAIN, 0, 1, 19);
        for (int i = 0; i < 20; i++) {
            p.run(0, 300);
        }
        p.run(Probe.ROOM, 300);
        p.count(400, 4);
        p.look(400, 0, 1);
        p.hang(Probe.ROOM, 0, 2);
        p.hang(Probe.ROOM, 0, 5);
        p.hang(Probe.DONE, 0, 1);
        p.hang(Probe.DONE, 0, 0);
    }
}
