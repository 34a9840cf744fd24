/** ==== 3, PIN, SEAT, LIFT: a test of its own for each sentence that names an edge of theirs. */
public final class EdgesOfCellOrdersTest {
    public static void main(String[] args) {
        pinAtTheMark();
        pinTruths();
        pinLowestBits();
        pinNearestFloat();
        pinNearestDouble();
        pinNothing();
        pinNoRowOfNumbers();
        pinNoSuchCell();
        seatAtTheMark();
        seatNone();
        seatNothing();
        seatNoRowOfFigures();
        seatNoFigure();
        seatNoPlace();
        seatWhatCannotBeHad();
        lift();
        liftNone();
        liftFromItself();
        liftNothing();
        liftNoRowOfFigures();
        liftNoPlace();
        Probe.end();
    }

    private static void pinAtTheMark() {
        Probe p = new Probe("the CELL of a's ROW at a's MARK becomes c, cut to its KIND");
        p.make(Probe.DONE, 0, 1, 64);
        p.pin(Probe.DONE, 0, 300);
        p.cell(44, 0, 0);
        p.mark(0, 63);
        p.pin(Probe.DONE, 0, -300);
        p.cell(-44, 0, 63);
        for (int i = 1; i < 63; i++) {
            p.cell(0, 0, i);
        }
        p.look(63, 0, 2);
    }

    private static void pinTruths() {
        Probe p = new Probe("truths: 1, if c isn't 0");
        p.make(Probe.DONE, 0, 0, 1);
        for (int c : new int[] {1, 2, -1, 256, 65536, Probe.MIN, Probe.MAX}) {
            p.pin(Probe.DONE, 0, c);
            p.cell(1, 0, 0);
            p.pin(Probe.DONE, 0, 0);
            p.cell(0, 0, 0);
        }
    }

    private static void pinned(Probe p, int kind, int c, long cell) {
        p.make(Probe.DONE, 0, kind, 1);
        p.pin(Probe.DONE, 0, c);
        p.cell(cell, 0, 0);
    }

    private static void pinLowestBits() {
        Probe p = new Probe("its lowest bits");
        pinned(p, 1, 0x7fffff80, -128);
        pinned(p, 1, 0x1234567f, 127);
        pinned(p, 1, 255, -1);
        pinned(p, 1, 256, 0);
        pinned(p, 2, -1, 65535);
        pinned(p, 2, 0x12348000, 32768);
        pinned(p, 2, 65536, 0);
        pinned(p, 3, 0x12348000, -32768);
        pinned(p, 3, 0x56787fff, 32767);
        pinned(p, 3, 65535, -1);
        pinned(p, 3, 65536, 0);
        pinned(p, 4, Probe.MIN, Probe.MIN);
        pinned(p, 4, -1, -1);
        pinned(p, 5, Probe.MIN, Probe.MIN);
        pinned(p, 5, -1, -1);
        pinned(p, 5, Probe.MAX, Probe.MAX);
    }

    private static void pinNearestFloat() {
        Probe p = new Probe("floats | of floats and doubles the nearest one");
        pinned(p, 6, 16777216, 0x4b800000L);
        // Halfway between two, the even one; beyond halfway, the nearer one.
        pinned(p, 6, 16777217, 0x4b800000L);
        pinned(p, 6, 16777218, 0x4b800001L);
        pinned(p, 6, 16777219, 0x4b800002L);
        pinned(p, 6, -16777217, 0xffffffffcb800000L);
        pinned(p, 6, -16777219, 0xffffffffcb800002L);
        pinned(p, 6, 33554434, 0x4c000000L);
        pinned(p, 6, 33554435, 0x4c000001L);
        // The digits of these are rounded up to one bit more.
        pinned(p, 6, 33554431, 0x4c000000L);
        pinned(p, 6, Probe.MAX, 0x4f000000L);
        pinned(p, 6, 2147483584, 0x4f000000L);
        pinned(p, 6, 2147483583, 0x4effffffL);
        pinned(p, 6, Probe.MIN, 0xffffffffcf000000L);
        pinned(p, 6, 0, 0);
        pinned(p, 6, 1, 0x3f800000L);
        pinned(p, 6, -1, 0xffffffffbf800000L);
    }

    private static void pinNearestDouble() {
        Probe p = new Probe("doubles | of floats and doubles the nearest one");
        pinned(p, 7, 16777217, 0x4170000010000000L);
        pinned(p, 7, Probe.MAX, 0x41dfffffffc00000L);
        pinned(p, 7, Probe.MIN, 0xc1e0000000000000L);
        pinned(p, 7, Probe.MIN + 1, 0xc1dfffffffc00000L);
        pinned(p, 7, 0, 0);
        pinned(p, 7, 1, 0x3ff0000000000000L);
        pinned(p, 7, -1, 0xbff0000000000000L);
        pinned(p, 7, 3, 0x4008000000000000L);
    }

    private static void pinNothing() {
        Probe p = new Probe("PIN | NOTHING");
        p.pin(Probe.NOTHING, 0, 1);
        p.make(Probe.DONE, 0, 4, 1);
        p.pin(Probe.DONE, 0, 1);
        p.hang(Probe.DONE, 0, 0);
        p.pin(Probe.NOTHING, 0, 1);
    }

    private static void pinNoRowOfNumbers() {
        Probe p = new Probe("STORE (no ROW of numbers)");
        for (int what = 1; what <= 5; what++) {
            p.hang(Probe.DONE, 0, what);
            p.pin(Probe.STORE, 0, 0);
        }
        for (int kind = 0; kind < 12; kind++) {
            p.make(Probe.DONE, 0, kind, 1);
            p.pin(kind < 8 ? Probe.DONE : Probe.STORE, 0, 1);
        }
        p.row(0, 0);
    }

    private static void pinNoSuchCell() {
        Probe p = new Probe("PLACE (there is no such CELL)");
        p.numbers(0, 4, 5, 6);
        for (int mark : new int[] {-1, 2, 64, Probe.MIN, Probe.MAX}) {
            p.mark(0, mark);
            p.pin(Probe.PLACE, 0, 7);
        }
        p.row(0, 5, 6);
        p.mark(0, 1);
        p.pin(Probe.DONE, 0, 7);
        p.mark(0, 0);
        p.make(Probe.DONE, 0, 4, 0);
        p.pin(Probe.PLACE, 0, 7);
        p.make(Probe.DONE, 0, 4, 64);
        p.mark(0, 64);
        p.pin(Probe.PLACE, 0, 7);
        p.mark(0, 63);
        p.pin(Probe.DONE, 0, 7);
    }

    private static void seatAtTheMark() {
        Probe p = new Probe("the CELL at a's MARK becomes the FIGURE on b");
        p.make(Probe.DONE, 0, 8, 64);
        p.hang(Probe.DONE, 1, 2);
        p.hang(Probe.DONE, 2, 5);
        p.mark(0, 63);
        // The other one's MARK is of no weight.
        p.mark(2, -1);
        p.seat(Probe.DONE, 0, 1);
        p.mark(0, 0);
        p.seat(Probe.DONE, 0, 2);
        p.cell(2, 0, 0);
        p.cell(1, 0, 63);
        p.cell(0, 0, 1);
        p.cell(0, 0, 62);
        p.seat(Probe.DONE, 0, 1);
        p.cell(1, 0, 0);
        p.look(13, 1, 0);
        p.look(16, 2, 0);
        p.count(2, 4);
    }

    private static void seatNone() {
        Probe p = new Probe("SEAT | or none");
        p.figures(0, 11, 4, 4);
        p.seat(Probe.DONE, 0, 9);
        p.row(0, 0, 2);
        p.seat(Probe.DONE, 0, 9);
        p.row(0, 0, 2);
    }

    private static void seatNothing() {
        Probe p = new Probe("SEAT | NOTHING (a holds nothing)");
        p.hang(Probe.DONE, 1, 2);
        p.seat(Probe.NOTHING, 0, 1);
        p.seat(Probe.NOTHING, 0, 2);
        p.seat(Probe.NOTHING, 0, 0);
    }

    private static void seatNoRowOfFigures() {
        Probe p = new Probe("STORE (a holds no ROW of figures");
        p.hang(Probe.DONE, 1, 2);
        for (int what = 1; what <= 5; what++) {
            p.hang(Probe.DONE, 0, what);
            p.seat(Probe.STORE, 0, 1);
            p.seat(Probe.STORE, 0, 2);
        }
        for (int kind = 0; kind < 9; kind++) {
            p.make(Probe.DONE, 0, kind, 1);
            p.seat(kind < 8 ? Probe.STORE : Probe.DONE, 0, 1);
            p.seat(kind < 8 ? Probe.STORE : Probe.DONE, 0, 2);
            p.row(0, 0);
        }
    }

    private static void seatNoFigure() {
        Probe p = new Probe("or b something that is no FIGURE)");
        p.make(Probe.DONE, 0, 8, 1);
        p.hang(Probe.DONE, 1, 1);
        p.seat(Probe.STORE, 0, 1);
        p.make(Probe.DONE, 1, 8, 1);
        p.seat(Probe.STORE, 0, 1);
        p.make(Probe.DONE, 1, 4, 1);
        p.seat(Probe.STORE, 0, 1);
        p.seat(Probe.STORE, 0, 0);
        p.row(0, 0);
    }

    private static void seatNoPlace() {
        Probe p = new Probe("SEAT | PLACE");
        p.figures(0, 9, 2, 2);
        p.hang(Probe.DONE, 1, 3);
        for (int mark : new int[] {-1, 2, 64, Probe.MIN, Probe.MAX}) {
            p.mark(0, mark);
            p.seat(Probe.PLACE, 0, 1);
            p.seat(Probe.PLACE, 0, 2);
        }
        p.row(0, 1, 2);
        p.mark(0, 1);
        p.seat(Probe.DONE, 0, 1);
        p.mark(0, 0);
        p.make(Probe.DONE, 0, 9, 0);
        p.seat(Probe.PLACE, 0, 1);
    }

    private static void seatWhatCannotBeHad() {
        Probe p = new Probe("STORE (the ROW can't have it)");
        for (int sort = 1; sort <= 4; sort++) {
            p.hang(Probe.DONE, sort, sort + 1);
        }
        boolean[][] had = {
            {true, true, true, true}, {false, true, true, false}, {false, false, true, false},
            {false, false, false, true}
        };
        for (int kind = 8; kind < 12; kind++) {
            for (int sort = 1; sort <= 4; sort++) {
                p.make(Probe.DONE, 0, kind, 1);
                p.seat(had[kind - 8][sort - 1] ? Probe.DONE : Probe.STORE, 0, sort);
                p.row(0, had[kind - 8][sort - 1] ? sort : 0);
            }
        }
    }

    private static void lift() {
        Probe p = new Probe("b holds the FIGURE, or nothing, of the CELL at a's MARK, which stays there, too");
        p.figures(0, 8, 1, 3, 4);
        p.hang(Probe.DONE, 1, 1);
        p.mark(0, 2);
        p.lift(Probe.DONE, 0, 1);
        p.look(16, 1, 0);
        p.look(3, 1, 1);
        p.row(0, 1, 2, 3);
        p.mark(0, 0);
        p.lift(Probe.DONE, 0, 2);
        p.look(13, 2, 0);
        p.row(0, 1, 2, 3);
        p.lift(Probe.DONE, 0, 3);
        p.look(2, 3, 3);
        p.count(3, 4);
    }

    private static void liftNone() {
        Probe p = new Probe("LIFT | or nothing");
        p.make(Probe.DONE, 0, 10, 1);
        p.hang(Probe.DONE, 1, 1);
        p.lift(Probe.DONE, 0, 1);
        p.look(Probe.NONE, 1, 0);
        p.lift(Probe.DONE, 0, 1);
        p.look(Probe.NONE, 1, 0);
    }

    private static void liftFromItself() {
        Probe p = new Probe("a and b one spindle | b holds the FIGURE, or nothing, of the CELL at a's MARK");
        p.figures(0, 11, 4, 0);
        p.share(1, 0);
        p.lift(Probe.DONE, 0, 0);
        p.look(16, 0, 0);
        p.row(1, 1, 0);
        p.mark(1, 1);
        p.lift(Probe.DONE, 1, 1);
        p.look(Probe.NONE, 1, 0);
    }

    private static void liftNothing() {
        Probe p = new Probe("LIFT | NOTHING (a holds nothing)");
        p.hang(Probe.DONE, 1, 1);
        p.lift(Probe.NOTHING, 0, 1);
        p.lift(Probe.NOTHING, 0, 0);
        p.look(12, 1, 0);
    }

    private static void liftNoRowOfFigures() {
        Probe p = new Probe("LIFT | STORE (a holds no ROW of figures)");
        p.hang(Probe.DONE, 1, 1);
        for (int what = 1; what <= 5; what++) {
            p.hang(Probe.DONE, 0, what);
            p.lift(Probe.STORE, 0, 1);
        }
        for (int kind = 0; kind < 8; kind++) {
            p.make(Probe.DONE, 0, kind, 1);
            p.lift(Probe.STORE, 0, 1);
        }
        p.look(12, 1, 0);
    }

    private static void liftNoPlace() {
        Probe p = new Probe("LIFT | PLACE.");
        p.figures(0, 8, 1, 1);
        p.hang(Probe.DONE, 1, 1);
        for (int mark : new int[] {-1, 2, 64, Probe.MIN, Probe.MAX}) {
            p.mark(0, mark);
            p.lift(Probe.PLACE, 0, 1);
        }
        p.look(12, 1, 0);
        p.mark(0, 1);
        p.lift(Probe.DONE, 0, 1);
        p.mark(0, 0);
        p.make(Probe.DONE, 0, 8, 0);
        p.lift(Probe.PLACE, 0, 1);
    }
}
