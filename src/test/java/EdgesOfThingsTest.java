/** ==== 1: a test of its own for each sentence that names an edge of a thing; the probe bears the sentence. */
public final class EdgesOfThingsTest {
    public static void main(String[] args) {
        spindlesFromZeroToNine();
        holdsOneOfFour();
        markIsAnInt();
        oneThingIsSeenAtAll();
        lengthFromZeroToSixtyFour();
        lengthIsForGood();
        range("KIND | 0 truths (0, 1)", 0, new int[] {0, 1, 2, -1, Probe.MIN}, 0, 1, 1, 1, 1);
        range("KIND | 1 bytes (-128 .. 127)", 1, new int[] {-128, 127, -129, 128, 256}, -128, 127, 127, -128, 0);
        range("KIND | 2 signs (0 .. 65535)", 2, new int[] {0, 65535, -1, 65536, Probe.MIN}, 0, 65535, 65535, 0, 0);
        range("KIND | 3 shorts (-32768 .. 32767)", 3, new int[] {-32768, 32767, -32769, 32768, 65536},
                -32768, 32767, 32767, -32768, 0);
        range("KIND | 4 ints (32 bits)", 4, new int[] {Probe.MIN, Probe.MAX, -1, 0, 65536},
                Probe.MIN, Probe.MAX, -1, 0, 65536);
        range("KIND | 5 longs (64)", 5, new int[] {Probe.MIN, Probe.MAX, -1, 0, 65536},
                Probe.MIN, Probe.MAX, -1, 0, 65536);
        range("KIND | 6 floats (of 32 bits)", 6, new int[] {Probe.MIN, Probe.MAX, -1, 0, 1},
                0xffffffffcf000000L, 0x4f000000L, 0xffffffffbf800000L, 0, 0x3f800000L);
        range("KIND | 7 doubles (of 64)", 7, new int[] {Probe.MIN, Probe.MAX, -1, 0, 1},
                0xc1e0000000000000L, 0x41dfffffffc00000L, 0xbff0000000000000L, 0, 0x3ff0000000000000L);
        cellsAtFirst();
        sorts();
        numbersAsTheyAreMade();
        canHave("A ROW of DANCERS can have DANCERS and PRINCES", 9, false, true, true, false);
        canHave("one of PRINCES these alone", 10, false, false, true, false);
        canHave("one of PIPERS these alone", 11, false, false, false, true);
        canHave("one of any all", 8, true, true, true, true);
        eachCanHaveNone();
        Probe.end();
    }

    private static void spindlesFromZeroToNine() {
        Probe p = new Probe("A SPINDLE (0 .. 9)");
        p.hang(Probe.DONE, 0, 1);
        p.hang(Probe.DONE, 9, 1);
        p.hang(Probe.NONE, -1, 1);
        p.hang(Probe.NONE, 10, 1);
        p.act(Probe.DONE, Probe.SHARE, 1, 9, 0);
        p.act(Probe.NONE, Probe.SHARE, 1, 10, 0);
        p.act(Probe.NONE, Probe.SHARE, 1, -1, 0);
        p.look(0, 0, 3);
        p.look(1, 9, 3);
        p.look(Probe.NONE, -1, 2);
        p.look(Probe.NONE, 10, 2);
    }

    private static void holdsOneOfFour() {
        Probe p = new Probe("holds a ROW, a FIGURE, a CRANK or nothing");
        int[] hung = {0, 1, 2};
        int[] seen = {Probe.NONE, 12, 13};
        for (int first = 0; first < 3; first++) {
            for (int next = 0; next < 3; next++) {
                p.hang(Probe.DONE, 4, hung[first]);
                p.look(seen[first], 4, 0);
                p.hang(Probe.DONE, 4, hung[next]);
                p.look(seen[next], 4, 0);
            }
            p.make(Probe.DONE, 4, 7, 2);
            p.look(7, 4, 0);
            p.look(2, 4, 1);
        }
    }

    private static void markIsAnInt() {
        Probe p = new Probe("has a MARK, an int (0 at first)");
        for (int k = 0; k < 10; k++) {
            p.look(0, k, 2);
        }
        for (int mark : new int[] {Probe.MIN, Probe.MAX, -1, 64, 0}) {
            p.mark(9, mark);
            p.look(mark, 9, 2);
            p.make(Probe.DONE, 9, 4, 1);
            p.look(mark, 9, 2);
        }
    }

    private static void oneThingIsSeenAtAll() {
        Probe p = new Probe("What several hold may be one THING: what is done to it is seen at all.");
        p.numbers(0, 4, 1, 2, 3);
        for (int k = 1; k < 10; k++) {
            p.share(k, k - 1);
        }
        p.pin(Probe.DONE, 9, 7);
        atAll(p, 7, 2, 3);
        p.turn(Probe.DONE, 5, 1);
        atAll(p, 2, 3, 7);
        p.open(Probe.DONE, 8, 1);
        atAll(p, 0, 2, 3);
        p.shut(Probe.DONE, 1, 1);
        atAll(p, 2, 3, 0);
        p.mark(3, 1);
        p.splice(Probe.DONE, 3, 4, 2);
        atAll(p, 3, 0, 0);
        p.back(true);
        atAll(p, 2, 3, 0);
    }

    private static void atAll(Probe p, long... cells) {
        for (int k = 0; k < 10; k++) {
            p.look(0, k, 3);
            for (int i = 0; i < cells.length; i++) {
                p.cell(cells[i], k, i);
            }
        }
    }

    private static void lengthFromZeroToSixtyFour() {
        Probe p = new Probe("A ROW has a KIND and a LENGTH, 0 .. 64");
        for (int kind = 0; kind < 12; kind++) {
            p.make(Probe.DONE, 0, kind, 0);
            p.look(kind, 0, 0);
            p.look(0, 0, 1);
            p.make(Probe.DONE, 0, kind, 64);
            p.look(kind, 0, 0);
            p.look(64, 0, 1);
            p.make(Probe.ROOM, 0, kind, 65);
            p.make(Probe.SIZE, 0, kind, -1);
            p.look(64, 0, 1);
        }
    }

    private static void lengthIsForGood() {
        Probe p = new Probe("A ROW has a KIND and a LENGTH, 0 .. 64, for good");
        p.numbers(0, 4, 1, 2, 3);
        p.numbers(1, 4, 4, 5, 6, 7, 8);
        p.open(Probe.DONE, 0, 3);
        p.look(3, 0, 1);
        p.shut(Probe.DONE, 0, 3);
        p.look(3, 0, 1);
        p.turn(Probe.DONE, 0, 4);
        p.look(3, 0, 1);
        p.splice(Probe.DONE, 1, 0, 3);
        p.look(3, 0, 1);
        p.look(5, 1, 1);
        p.splice(Probe.PLACE, 1, 0, 4);
        p.look(3, 0, 1);
        p.back(true);
        p.look(3, 0, 1);
        p.look(4, 0, 0);
    }

    private static void range(String sentence, int kind, int[] pinned, long... cells) {
        Probe p = new Probe(sentence);
        p.make(Probe.DONE, 0, kind, pinned.length);
        p.look(kind, 0, 0);
        for (int i = 0; i < pinned.length; i++) {
            p.mark(0, i);
            p.pin(Probe.DONE, 0, pinned[i]);
        }
        p.row(0, cells);
    }

    private static void cellsAtFirst() {
        Probe p = new Probe("Each CELL is a number, at first 0, or a FIGURE, at first none.");
        for (int kind = 0; kind < 12; kind++) {
            p.make(Probe.DONE, 0, kind, 4);
            p.row(0, 0, 0, 0, 0);
            p.mark(0, 3);
            if (kind < 8) {
                p.pin(Probe.DONE, 0, 1);
            } else {
                p.lift(Probe.DONE, 0, 1);
                p.look(Probe.NONE, 1, 0);
            }
        }
    }

    private static void sorts() {
        Probe p = new Probe("FIGURES have a SORT: 1 plain, 2 DANCER, 3 PRINCE (who is a DANCER, too), 4 PIPER");
        for (int sort = 1; sort <= 4; sort++) {
            p.hang(Probe.DONE, sort, sort + 1);
            p.sort(sort, sort);
        }
        p.make(Probe.DONE, 0, 9, 1);
        p.seat(Probe.STORE, 0, 1);
        p.seat(Probe.DONE, 0, 2);
        p.seat(Probe.DONE, 0, 3);
        p.seat(Probe.STORE, 0, 4);
        p.make(Probe.DONE, 0, 10, 1);
        p.seat(Probe.STORE, 0, 2);
        p.seat(Probe.DONE, 0, 3);
    }

    private static void numbersAsTheyAreMade() {
        Probe p = new Probe("and a number: 1, 2, .. as they are made");
        p.hang(Probe.DONE, 3, 5);
        p.look(1, 3, 1);
        p.hang(Probe.DONE, 3, 1);
        p.hang(Probe.DONE, 3, 2);
        p.look(2, 3, 1);
        p.make(Probe.DONE, 0, 8, 1);
        p.hang(Probe.DONE, 3, 0);
        p.hang(Probe.DONE, 4, 2);
        p.look(3, 4, 1);
        p.share(5, 4);
        p.look(3, 5, 1);
        p.hang(Probe.DONE, 4, 2);
        p.look(4, 4, 1);
        p.look(3, 5, 1);
    }

    private static void canHave(String sentence, int kind, boolean... sorts) {
        Probe p = new Probe(sentence);
        p.make(Probe.DONE, 0, kind, 2);
        p.make(Probe.DONE, 1, 8, 1);
        for (int sort = 1; sort <= 4; sort++) {
            int answer = sorts[sort - 1] ? Probe.DONE : Probe.STORE;
            long cell = sorts[sort - 1] ? sort : 0;
            p.hang(Probe.DONE, 2, sort + 1);
            p.seat(Probe.DONE, 1, 2);
            p.mark(0, 0);
            p.seat(answer, 0, 2);
            p.mark(0, 1);
            p.splice(answer, 1, 0, 1);
            p.row(0, cell, cell);
            p.make(Probe.DONE, 0, kind, 2);
        }
    }

    private static void eachCanHaveNone() {
        Probe p = new Probe("each can have none");
        p.make(Probe.DONE, 1, 8, 1);
        int[] sorts = {1, 2, 3, 4};
        for (int kind = 8; kind < 12; kind++) {
            p.figures(0, kind, sorts[kind - 8], sorts[kind - 8]);
            p.seat(Probe.DONE, 0, 9);
            p.cell(0, 0, 0);
            p.mark(0, 1);
            p.splice(Probe.DONE, 1, 0, 1);
            p.row(0, 0, 0);
        }
    }
}
