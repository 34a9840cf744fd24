/** ==== 2: a test of its own for each sentence that names an edge of a refusal; the probe bears the sentence. */
public final class EdgesOfRefusalsTest {
    private static final String FIRST = "Of several that an ORDER could have it has the one that is told first";

    public static void main(String[] args) {
        firstOfSplice();
        firstOfOpenAndShut(Probe.OPEN);
        firstOfOpenAndShut(Probe.SHUT);
        firstOfMakeAndTwin();
        firstOfPin();
        firstOfSeat();
        firstOfLift();
        nothingIsDone();
        nothingIsDoneWithoutRoom();
        butWhereItIsTold();
        wornOutAheadOfAllElse();
        fourThousandWereBegun();
        inTheWorkshopsLife();
        isNotBegun();
        roomForRows();
        roomForCells();
        roomForLength();
        roomForFigures();
        Probe.end();
    }

    private static void firstOfSplice() {
        Probe p = new Probe("SPLICE | " + FIRST);
        p.mark(0, -1);
        p.mark(1, -1);
        p.hang(Probe.DONE, 0, 1);
        // NOTHING ahead of STORE and PLACE, STORE ahead of PLACE, PLACE ahead of the other STORE.
        p.splice(Probe.NOTHING, 0, 1, -1);
        p.splice(Probe.NOTHING, 1, 0, -1);
        p.make(Probe.DONE, 1, 4, 1);
        p.splice(Probe.STORE, 0, 1, -1);
        p.splice(Probe.STORE, 1, 0, -1);
        p.make(Probe.DONE, 0, 5, 1);
        p.splice(Probe.STORE, 0, 1, -1);
        p.figures(2, 8, 1);
        p.make(Probe.DONE, 3, 11, 1);
        p.splice(Probe.PLACE, 2, 3, 2);
        p.splice(Probe.STORE, 2, 3, 1);
    }

    private static void firstOfOpenAndShut(int code) {
        Probe p = new Probe(code + " | " + FIRST);
        p.mark(0, -1);
        p.act(Probe.NOTHING, code, 0, 0, -1);
        p.hang(Probe.DONE, 0, 2);
        p.act(Probe.STORE, code, 0, 0, -1);
        p.make(Probe.DONE, 0, 4, 1);
        p.act(Probe.PLACE, code, 0, 0, -1);
    }

    private static void firstOfMakeAndTwin() {
        Probe p = new Probe("MAKE, TWIN | " + FIRST);
        allRows(p);
        p.make(Probe.SIZE, 1, 4, -1);
        p.make(Probe.ROOM, 1, 4, 0);
        p.twin(Probe.NOTHING, 1, 2);
        p.hang(Probe.DONE, 2, 1);
        p.twin(Probe.STORE, 1, 2);
        p.twin(Probe.ROOM, 1, 0);
    }

    private static void firstOfPin() {
        Probe p = new Probe("PIN | " + FIRST);
        p.mark(0, -1);
        p.pin(Probe.NOTHING, 0, 1);
        p.make(Probe.DONE, 0, 8, 1);
        p.pin(Probe.STORE, 0, 1);
        p.make(Probe.DONE, 0, 4, 1);
        p.pin(Probe.PLACE, 0, 1);
    }

    private static void firstOfSeat() {
        Probe p = new Probe("SEAT | " + FIRST);
        p.mark(0, -1);
        p.hang(Probe.DONE, 1, 1);
        p.seat(Probe.NOTHING, 0, 1);
        p.make(Probe.DONE, 0, 4, 1);
        p.seat(Probe.STORE, 0, 2);
        p.make(Probe.DONE, 0, 11, 1);
        p.seat(Probe.STORE, 0, 1);
        p.hang(Probe.DONE, 1, 2);
        p.seat(Probe.PLACE, 0, 1);
        p.mark(0, 0);
        p.seat(Probe.STORE, 0, 1);
    }

    private static void firstOfLift() {
        Probe p = new Probe("LIFT | " + FIRST);
        p.mark(0, -1);
        p.lift(Probe.NOTHING, 0, 1);
        p.make(Probe.DONE, 0, 4, 1);
        p.lift(Probe.STORE, 0, 1);
        p.make(Probe.DONE, 0, 8, 1);
        p.lift(Probe.PLACE, 0, 1);
    }

    /** Spindles hold: 0 ints, 1 a crank, 2 a plain figure, 4 a piper, 5 a row of any, 6 one of pipers, 9 nothing. */
    private static Probe full(String sentence) {
        Probe p = new Probe(sentence);
        p.numbers(0, 4, 1, 2, 3);
        p.figures(5, 8, 1, 4);
        p.figures(6, 11, 4, 4);
        p.hang(Probe.DONE, 1, 1);
        p.hang(Probe.DONE, 2, 2);
        p.hang(Probe.DONE, 4, 5);
        return p;
    }

    private static void nothingIsDone() {
        int[][] refused = {
            {Probe.NOTHING, Probe.SPLICE, 0, 9, 1}, {Probe.NOTHING, Probe.SPLICE, 9, 0, 1},
            {Probe.STORE, Probe.SPLICE, 0, 1, 1}, {Probe.STORE, Probe.SPLICE, 5, 0, 1},
            {Probe.PLACE, Probe.SPLICE, 5, 6, 3}, {Probe.PLACE, Probe.SPLICE, 6, 5, -1},
            {Probe.STORE, Probe.SPLICE, 5, 6, 2},
            {Probe.NOTHING, Probe.TURN, 9, 0, 1}, {Probe.STORE, Probe.TURN, 2, 0, 1},
            {Probe.NOTHING, Probe.OPEN, 9, 0, 1}, {Probe.STORE, Probe.OPEN, 1, 0, 1},
            {Probe.PLACE, Probe.OPEN, 0, 0, 4}, {Probe.PLACE, Probe.OPEN, 0, 0, -1},
            {Probe.NOTHING, Probe.SHUT, 9, 0, 1}, {Probe.STORE, Probe.SHUT, 1, 0, 1},
            {Probe.PLACE, Probe.SHUT, 0, 0, 4}, {Probe.PLACE, Probe.SHUT, 0, 0, -1},
            {Probe.SIZE, Probe.MAKE, 0, 4, -1}, {Probe.ROOM, Probe.MAKE, 0, 4, 65},
            {Probe.NOTHING, Probe.TWIN, 0, 9, 0}, {Probe.STORE, Probe.TWIN, 0, 2, 0},
            {Probe.NOTHING, Probe.PIN, 9, 0, 1}, {Probe.STORE, Probe.PIN, 6, 0, 1},
            {Probe.NOTHING, Probe.SEAT, 9, 4, 0}, {Probe.STORE, Probe.SEAT, 0, 4, 0},
            {Probe.STORE, Probe.SEAT, 6, 1, 0}, {Probe.STORE, Probe.SEAT, 6, 2, 0},
            {Probe.NOTHING, Probe.LIFT, 9, 0, 0}, {Probe.STORE, Probe.LIFT, 0, 5, 0}
        };
        for (int[] o : refused) {
            Probe p = full(o[1] + " refused by " + o[0] + " | it has done nothing then");
            String state = p.state();
            p.act(o[0], o[1], o[2], o[3], o[4]);
            p.stillAs(state);
        }
        nothingIsDoneBeyondThePlaces();
    }

    private static void nothingIsDoneBeyondThePlaces() {
        Probe p = full("PLACE | it has done nothing then");
        p.mark(0, 3);
        p.mark(5, 2);
        String state = p.state();
        p.open(Probe.PLACE, 0, 1);
        p.shut(Probe.PLACE, 0, 1);
        p.pin(Probe.PLACE, 0, 1);
        p.seat(Probe.PLACE, 5, 4);
        p.seat(Probe.PLACE, 5, 9);
        p.lift(Probe.PLACE, 5, 1);
        p.splice(Probe.PLACE, 5, 6, 1);
        p.splice(Probe.PLACE, 6, 5, 1);
        p.stillAs(state);
    }

    private static void nothingIsDoneWithoutRoom() {
        Probe p = new Probe("ROOM | it has done nothing then");
        allRows(p);
        allFigures(p);
        p.hang(Probe.DONE, 1, 1);
        String state = p.state();
        p.make(Probe.ROOM, 1, 4, 1);
        p.twin(Probe.ROOM, 1, 0);
        p.hang(Probe.ROOM, 1, 3);
        p.stillAs(state);
    }

    private static void butWhereItIsTold() {
        Probe p = new Probe("but where it is told");
        p.figures(0, 8, 3, 2, 4, 3);
        p.make(Probe.DONE, 1, 9, 4);
        p.splice(Probe.STORE, 0, 1, 4);
        p.row(1, 1, 2, 0, 0);
        p.row(0, 1, 2, 3, 4);
    }

    private static void wornOutAheadOfAllElse() {
        Probe p = new Probe("WORN OUT, ahead of all else");
        p.hang(Probe.DONE, 0, 1);
        p.make(Probe.DONE, 1, 4, 1);
        p.wear(4000 - 2);
        p.turn(Probe.WORN_OUT, 9, 1);
        p.turn(Probe.WORN_OUT, 0, 1);
        p.open(Probe.WORN_OUT, 1, 2);
        p.make(Probe.WORN_OUT, 1, 4, 65);
        p.make(Probe.WORN_OUT, 1, 4, -1);
        p.act(Probe.WORN_OUT, Probe.MARK, 1, 0, 1);
        for (int code = 0; code <= 12; code++) {
            p.act(Probe.WORN_OUT, code, 1, 1, 0);
        }
        // No WHEN meets it.
        p.tune(Probe.TURN, 9, 0, 1, Probe.WHEN, 0, 0, 0);
        p.run(Probe.WORN_OUT, 300);
    }

    private static void fourThousandWereBegun() {
        Probe p = new Probe("4,000 ORDERS were begun");
        p.wear(3999);
        p.act(Probe.DONE, Probe.MARK, 0, 0, 5);
        p.look(5, 0, 2);
        p.count(4000, 1);
        p.act(Probe.WORN_OUT, Probe.MARK, 0, 0, 6);
        p.look(5, 0, 2);
    }

    private static void inTheWorkshopsLife() {
        Probe p = new Probe("in the workshop's life");
        // Orders of acts and of runs, refused ones, those of the tune's own and done ones count alike.
        p.turn(Probe.NOTHING, 9, 1);
        p.act(Probe.NONE, 13, 0, 0, 0);
        p.back(false);
        p.tune(Probe.TURN, 9, 0, 1, Probe.WHEN, 1, 0, 0, Probe.WHEN, 0, 0, 0, Probe.AGAIN, 0, 1, 0);
        p.run(0, 300);
        p.count(4, 1);
        p.wear(3995);
        p.mark(0, 1);
        p.act(Probe.WORN_OUT, Probe.MARK, 0, 0, 2);
        Probe other = new Probe("another workshop | in the workshop's life");
        other.mark(0, 1);
        other.count(1, 1);
    }

    private static void isNotBegun() {
        Probe p = new Probe("(this one isn't begun then)");
        p.numbers(0, 4, 1, 2);
        p.wear(4000 - 6);
        String state = p.state();
        p.turn(Probe.WORN_OUT, 0, 1);
        p.count(4000, 1);
        p.count(0, 6);
        p.hang(Probe.WORN_OUT, 0, 2);
        p.make(Probe.WORN_OUT, 0, 4, 1);
        p.act(Probe.WORN_OUT, Probe.MARK, 0, 0, 9);
        p.stillAs(state);
        p.count(4000, 1);
        p.count(0, 6);
        p.tune(Probe.TURN, 0, 0, 1);
        p.run(Probe.WORN_OUT, 1);
        p.count(0, 8);
        p.count(4000, 1);
        p.row(0, 1, 2);
    }

    /** All the rows there can be, of length 0; spindle 0 holds the last. */
    private static void allRows(Probe p) {
        p.tune(Probe.MAKE, 0, 4, 0, Probe.AGAIN, 0, 1, 19);
        for (int i = 0; i < 6; i++) {
            p.run(0, 300);
        }
        p.cut(true, 0);
        p.count(120, 2);
    }

    /** All the figures there can be; spindle 9 holds the last. */
    private static void allFigures(Probe p) {
        p.tune(Probe.HANG, 9, 2, 0, Probe.AGAIN, 0, 1, 19);
        for (int i = 0; i < 20; i++) {
            p.run(0, 300);
        }
        p.cut(true, 0);
        p.count(400, 4);
    }

    private static void roomForRows() {
        Probe p = new Probe("there were 120 ROWS");
        for (int i = 0; i < 118; i++) {
            p.make(Probe.DONE, 0, 4, 1);
        }
        p.twin(Probe.DONE, 1, 0);
        p.make(Probe.DONE, 2, 8, 1);
        p.count(120, 2);
        p.make(Probe.ROOM, 3, 4, 0);
        p.twin(Probe.ROOM, 3, 0);
        p.count(120, 2);
        p.hang(Probe.DONE, 0, 0);
        p.hang(Probe.DONE, 1, 0);
        p.make(Probe.ROOM, 3, 4, 0);
    }

    private static void roomForCells() {
        Probe p = new Probe("or would be more than 3,000 CELLS in all that were made");
        for (int i = 0; i < 46; i++) {
            p.make(Probe.DONE, 0, 5, 64);
        }
        p.make(Probe.DONE, 1, 5, 50);
        p.make(Probe.DONE, 2, 5, 4);
        p.count(2998, 3);
        p.make(Probe.ROOM, 3, 5, 3);
        p.twin(Probe.ROOM, 3, 2);
        p.count(2998, 3);
        p.make(Probe.DONE, 3, 5, 1);
        p.twin(Probe.DONE, 4, 3);
        p.count(3000, 3);
        p.make(Probe.ROOM, 5, 5, 1);
        p.twin(Probe.ROOM, 5, 3);
        // None more is not more than 3,000.
        p.make(Probe.DONE, 5, 5, 0);
        p.twin(Probe.DONE, 6, 5);
        p.hang(Probe.DONE, 0, 0);
        p.make(Probe.ROOM, 0, 5, 1);
    }

    private static void roomForLength() {
        Probe p = new Probe("or a LENGTH above 64");
        p.make(Probe.DONE, 0, 0, 64);
        for (int length : new int[] {65, 66, 3000, 3001, Probe.MAX - 64, Probe.MAX}) {
            p.make(Probe.ROOM, 1, 0, length);
        }
        p.count(1, 2);
        p.count(64, 3);
    }

    private static void roomForFigures() {
        Probe p = new Probe("or 400 FIGURES, for one more");
        p.tune(Probe.HANG, 0, 2, 0, Probe.AGAIN, 0, 1, 18);
        for (int i = 0; i < 21; i++) {
            p.run(0, 300);
        }
        p.count(399, 4);
        p.hang(Probe.DONE, 0, 5);
        p.look(400, 0, 1);
        for (int what = 2; what <= 5; what++) {
            p.hang(Probe.ROOM, 1, what);
        }
        p.look(Probe.NONE, 1, 0);
        p.count(400, 4);
        p.sort(Probe.NONE, 401);
        p.hang(Probe.DONE, 0, 0);
        p.hang(Probe.ROOM, 0, 2);
        p.hang(Probe.DONE, 0, 1);
        p.make(Probe.DONE, 0, 8, 64);
    }
}
