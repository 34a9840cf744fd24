/** ==== 3, SPLICE, TURN, OPEN, SHUT: a test of its own for each sentence that names an edge of theirs. */
public final class EdgesOfRowOrdersTest {
    private static final String PLACES = "PLACE (MARK or c below 0, or both together above the LENGTH)";

    public static void main(String[] args) {
        spliceFromMarkToMark();
        spliceInOneRow();
        spliceNothing();
        spliceNoRow();
        spliceUnlike();
        spliceOfFiguresIsAlike();
        spliceBelowZero();
        spliceAboveTheLength();
        spliceWhatCannotBeHad();
        turnTowardsTheFront();
        turnAny();
        turnOfLengthZero();
        turnRefused();
        open();
        openNothingOrAll();
        refused("OPEN", Probe.OPEN);
        places("OPEN | " + PLACES, Probe.OPEN);
        shut();
        shutNothingOrAll();
        refused("SHUT", Probe.SHUT);
        places("SHUT, likewise | " + PLACES, Probe.SHUT);
        Probe.end();
    }

    private static void spliceFromMarkToMark() {
        Probe p = new Probe("c CELLS of a's ROW, from a's MARK on, come to b's ROW, from b's MARK on");
        p.numbers(0, 4, 1, 2, 3, 4);
        p.numbers(1, 4, 5, 6, 7);
        p.mark(0, 3);
        p.mark(1, 0);
        p.splice(Probe.DONE, 0, 1, 1);
        p.row(1, 4, 6, 7);
        p.mark(0, 0);
        p.mark(1, 2);
        p.splice(Probe.DONE, 0, 1, 1);
        p.row(1, 4, 6, 1);
        p.splice(Probe.DONE, 0, 1, 0);
        p.row(1, 4, 6, 1);
        p.mark(0, 1);
        p.mark(1, 0);
        p.splice(Probe.DONE, 0, 1, 3);
        p.row(1, 2, 3, 4);
        p.row(0, 1, 2, 3, 4);
        p.look(1, 0, 2);
        p.look(0, 1, 2);
    }

    private static void spliceInOneRow() {
        Probe p = new Probe("(as if through a row between, where it is one ROW)");
        p.numbers(0, 4, 1, 2, 3, 4, 5);
        p.share(1, 0);
        p.mark(1, 1);
        p.splice(Probe.DONE, 0, 1, 4);
        p.row(0, 1, 1, 2, 3, 4);
        p.mark(1, 2);
        p.splice(Probe.DONE, 1, 0, 3);
        p.row(0, 2, 3, 4, 3, 4);
        p.splice(Probe.DONE, 1, 1, 3);
        p.row(0, 2, 3, 4, 3, 4);
        p.splice(Probe.DONE, 0, 0, 5);
        p.row(0, 2, 3, 4, 3, 4);
        Probe q = new Probe("figures | (as if through a row between, where it is one ROW)");
        q.figures(0, 9, 2, 3, 2);
        q.share(1, 0);
        q.mark(1, 1);
        q.splice(Probe.DONE, 0, 1, 2);
        q.row(0, 1, 1, 2);
    }

    private static void spliceNothing() {
        Probe p = new Probe("NOTHING (one of both holds nothing)");
        p.splice(Probe.NOTHING, 0, 1, 0);
        p.splice(Probe.NOTHING, 0, 0, 0);
        p.make(Probe.DONE, 0, 4, 2);
        p.splice(Probe.NOTHING, 0, 1, 0);
        p.splice(Probe.NOTHING, 1, 0, 0);
        p.make(Probe.DONE, 1, 4, 2);
        p.splice(Probe.DONE, 0, 1, 0);
        p.splice(Probe.DONE, 1, 0, 0);
        p.hang(Probe.DONE, 1, 0);
        p.splice(Probe.NOTHING, 0, 1, 0);
    }

    private static void spliceNoRow() {
        Probe p = new Probe("STORE (one of both holds no ROW");
        p.make(Probe.DONE, 0, 8, 2);
        for (int what = 1; what <= 5; what++) {
            p.hang(Probe.DONE, 1, what);
            p.splice(Probe.STORE, 0, 1, 0);
            p.splice(Probe.STORE, 1, 0, 0);
            p.splice(Probe.STORE, 1, 1, 0);
        }
    }

    private static void spliceUnlike() {
        Probe p = new Probe("or they are of unlike KINDS");
        for (int kind = 0; kind < 8; kind++) {
            p.make(Probe.DONE, 0, kind, 1);
            for (int other = 0; other < 9; other++) {
                p.make(Probe.DONE, 1, other, 1);
                p.splice(kind == other ? Probe.DONE : Probe.STORE, 0, 1, 0);
                p.splice(kind == other ? Probe.DONE : Probe.STORE, 1, 0, 1);
            }
        }
    }

    private static void spliceOfFiguresIsAlike() {
        Probe p = new Probe("all KINDS of figures being alike here");
        for (int kind = 8; kind < 12; kind++) {
            p.make(Probe.DONE, 0, kind, 1);
            for (int other = 8; other < 12; other++) {
                p.make(Probe.DONE, 1, other, 1);
                p.splice(Probe.DONE, 0, 1, 1);
            }
        }
        p.figures(2, 9, 3);
        p.make(Probe.DONE, 3, 10, 1);
        p.splice(Probe.DONE, 2, 3, 1);
        p.row(3, 1);
    }

    private static void spliceBelowZero() {
        Probe p = new Probe("PLACE (one MARK or c is below 0");
        p.numbers(0, 4, 1, 2);
        p.numbers(1, 4, 3, 4);
        for (int below : new int[] {-1, Probe.MIN}) {
            p.splice(Probe.PLACE, 0, 1, below);
            p.mark(0, below);
            p.splice(Probe.PLACE, 0, 1, 1);
            p.splice(Probe.PLACE, 0, 1, 0);
            p.splice(Probe.PLACE, 1, 0, 1);
            p.splice(Probe.PLACE, 1, 0, 0);
            p.mark(0, 1);
            p.splice(Probe.PLACE, 0, 1, below);
            p.splice(Probe.PLACE, 1, 0, below);
            p.mark(0, 0);
        }
        p.row(0, 1, 2);
        p.row(1, 3, 4);
    }

    private static void spliceAboveTheLength() {
        Probe p = new Probe("or a MARK and c together are above the LENGTH of its ROW)");
        p.numbers(0, 4, 1, 2, 3);
        p.numbers(1, 4, 4, 5);
        p.splice(Probe.PLACE, 0, 1, 3);
        p.splice(Probe.PLACE, 1, 0, 3);
        p.mark(0, 2);
        p.splice(Probe.PLACE, 0, 1, 2);
        p.splice(Probe.PLACE, 1, 0, 2);
        p.splice(Probe.DONE, 0, 1, 1);
        p.row(1, 3, 5);
        p.mark(0, 3);
        p.splice(Probe.DONE, 0, 1, 0);
        p.splice(Probe.PLACE, 0, 1, 1);
        p.splice(Probe.PLACE, 1, 0, 1);
        p.mark(0, 4);
        p.splice(Probe.PLACE, 0, 1, 0);
        p.splice(Probe.PLACE, 1, 0, 0);
        // Added as ints, these would come out below 0.
        p.mark(0, Probe.MAX);
        p.splice(Probe.PLACE, 0, 1, 1);
        p.splice(Probe.PLACE, 1, 0, 1);
        p.splice(Probe.PLACE, 0, 1, Probe.MAX);
        p.mark(0, 1);
        p.splice(Probe.PLACE, 0, 1, Probe.MAX);
        p.splice(Probe.PLACE, 1, 0, Probe.MAX);
        p.make(Probe.DONE, 2, 4, 0);
        p.splice(Probe.DONE, 2, 2, 0);
        p.splice(Probe.PLACE, 2, 2, 1);
        p.row(1, 3, 5);
    }

    private static void spliceWhatCannotBeHad() {
        Probe p = new Probe("STORE (b's ROW can't have a FIGURE: those ahead of it have come)");
        p.figures(0, 8, 4, 0, 4, 1, 4);
        p.figures(1, 11, 4, 4, 4, 4, 4);
        p.splice(Probe.STORE, 0, 1, 5);
        p.row(1, 1, 0, 2, 8, 9);
        // The last of those that come, the first, and one that is not among them.
        p.mark(0, 2);
        p.mark(1, 3);
        p.splice(Probe.STORE, 0, 1, 2);
        p.row(1, 1, 0, 2, 2, 9);
        p.mark(0, 3);
        p.splice(Probe.STORE, 0, 1, 2);
        p.row(1, 1, 0, 2, 2, 9);
        p.mark(0, 1);
        p.splice(Probe.DONE, 0, 1, 2);
        p.row(1, 1, 0, 2, 0, 2);
        p.mark(0, 3);
        p.splice(Probe.DONE, 0, 1, 0);
    }

    private static void turnTowardsTheFront() {
        Probe p = new Probe("the CELLS go c places towards the front, those that go over it come behind, round");
        p.numbers(0, 4, 1, 2, 3, 4);
        p.turn(Probe.DONE, 0, 1);
        p.row(0, 2, 3, 4, 1);
        p.turn(Probe.DONE, 0, 3);
        p.row(0, 1, 2, 3, 4);
        p.turn(Probe.DONE, 0, 4);
        p.row(0, 1, 2, 3, 4);
        p.turn(Probe.DONE, 0, 6);
        p.row(0, 3, 4, 1, 2);
        // The MARK is not looked at.
        p.mark(0, Probe.MIN);
        p.turn(Probe.DONE, 0, 2);
        p.row(0, 1, 2, 3, 4);
    }

    private static void turnAny() {
        Probe p = new Probe("(c any, below 0 the other way");
        p.numbers(0, 4, 1, 2, 3);
        p.turn(Probe.DONE, 0, 0);
        p.row(0, 1, 2, 3);
        p.turn(Probe.DONE, 0, -1);
        p.row(0, 3, 1, 2);
        p.turn(Probe.DONE, 0, -3);
        p.row(0, 3, 1, 2);
        p.turn(Probe.DONE, 0, -5);
        p.row(0, 1, 2, 3);
        // 2147483647 is one more than a whole number of rounds, -2147483648 two less.
        p.turn(Probe.DONE, 0, Probe.MAX);
        p.row(0, 2, 3, 1);
        p.turn(Probe.DONE, 0, Probe.MIN);
        p.row(0, 3, 1, 2);
        Probe q = new Probe("a row of 64 | (c any, below 0 the other way");
        q.make(Probe.DONE, 0, 4, 64);
        q.pin(Probe.DONE, 0, 5);
        q.turn(Probe.DONE, 0, Probe.MAX);
        q.cell(5, 0, 1);
        q.turn(Probe.DONE, 0, -62);
        q.cell(5, 0, 63);
        q.turn(Probe.DONE, 0, Probe.MIN);
        q.cell(5, 0, 63);
    }

    private static void turnOfLengthZero() {
        Probe p = new Probe("one of LENGTH 0 stays)");
        for (int kind = 0; kind < 12; kind++) {
            p.make(Probe.DONE, 0, kind, 0);
            for (int c : new int[] {0, 1, -1, Probe.MAX, Probe.MIN}) {
                p.turn(Probe.DONE, 0, c);
            }
            p.row(0);
        }
        p.count(0, 5);
        p.make(Probe.DONE, 0, 4, 1);
        p.pin(Probe.DONE, 0, 3);
        p.turn(Probe.DONE, 0, 1);
        p.row(0, 3);
    }

    private static void turnRefused() {
        Probe p = new Probe("TURN | NOTHING; STORE (no ROW).");
        p.turn(Probe.NOTHING, 0, 0);
        for (int what = 1; what <= 5; what++) {
            p.hang(Probe.DONE, 0, what);
            p.turn(Probe.STORE, 0, 0);
        }
    }

    private static void open() {
        Probe p = new Probe("those from there on go c places on, the last c are lost, and what opened is 0, or none");
        p.numbers(0, 4, 1, 2, 3, 4);
        p.mark(0, 1);
        p.open(Probe.DONE, 0, 1);
        p.row(0, 1, 0, 2, 3);
        p.mark(0, 2);
        p.open(Probe.DONE, 0, 2);
        p.row(0, 1, 0, 0, 0);
        p.look(2, 0, 2);
        p.figures(1, 10, 3, 3, 3);
        p.open(Probe.DONE, 1, 1);
        p.row(1, 0, 1, 2);
        p.lift(Probe.DONE, 1, 2);
        p.look(Probe.NONE, 2, 0);
    }

    private static void openNothingOrAll() {
        Probe p = new Probe("none, and all | at a's MARK c CELLS open");
        p.numbers(0, 4, 1, 2, 3);
        p.open(Probe.DONE, 0, 0);
        p.row(0, 1, 2, 3);
        p.mark(0, 3);
        p.open(Probe.DONE, 0, 0);
        p.row(0, 1, 2, 3);
        p.mark(0, 2);
        p.open(Probe.DONE, 0, 1);
        p.row(0, 1, 2, 0);
        p.mark(0, 0);
        p.open(Probe.DONE, 0, 3);
        p.row(0, 0, 0, 0);
        p.make(Probe.DONE, 0, 4, 0);
        p.open(Probe.DONE, 0, 0);
        p.row(0);
    }

    private static void shut() {
        Probe p = new Probe(
                "c CELLS from a's MARK on are lost, those behind come forward, and the last c are 0, or none");
        p.numbers(0, 4, 1, 2, 3, 4);
        p.mark(0, 1);
        p.shut(Probe.DONE, 0, 1);
        p.row(0, 1, 3, 4, 0);
        p.mark(0, 0);
        p.shut(Probe.DONE, 0, 2);
        p.row(0, 4, 0, 0, 0);
        p.look(0, 0, 2);
        p.figures(1, 10, 3, 3, 3);
        p.shut(Probe.DONE, 1, 1);
        p.row(1, 2, 3, 0);
        p.mark(1, 2);
        p.lift(Probe.DONE, 1, 2);
        p.look(Probe.NONE, 2, 0);
    }

    private static void shutNothingOrAll() {
        Probe p = new Probe("none, and all | c CELLS from a's MARK on are lost");
        p.numbers(0, 4, 1, 2, 3);
        p.shut(Probe.DONE, 0, 0);
        p.row(0, 1, 2, 3);
        p.mark(0, 3);
        p.shut(Probe.DONE, 0, 0);
        p.row(0, 1, 2, 3);
        p.mark(0, 2);
        p.shut(Probe.DONE, 0, 1);
        p.row(0, 1, 2, 0);
        p.mark(0, 0);
        p.shut(Probe.DONE, 0, 3);
        p.row(0, 0, 0, 0);
        p.make(Probe.DONE, 0, 4, 0);
        p.shut(Probe.DONE, 0, 0);
        p.row(0);
    }

    private static void refused(String name, int code) {
        Probe p = new Probe(name + " | NOTHING; STORE (no ROW)");
        p.act(Probe.NOTHING, code, 0, 0, 0);
        for (int what = 1; what <= 5; what++) {
            p.hang(Probe.DONE, 0, what);
            p.act(Probe.STORE, code, 0, 0, 0);
        }
        p.hang(Probe.DONE, 0, 0);
        p.act(Probe.NOTHING, code, 0, 0, 0);
    }

    private static void places(String sentence, int code) {
        Probe p = new Probe(sentence);
        p.numbers(0, 4, 1, 2, 3);
        for (int c : new int[] {-1, 4, Probe.MIN, Probe.MAX}) {
            p.act(Probe.PLACE, code, 0, 0, c);
        }
        int[][] wrong = {
            {-1, 0}, {-1, 1}, {Probe.MIN, 0}, {Probe.MIN, Probe.MAX}, {1, 3}, {2, -1}, {3, 1}, {3, -1}, {4, 0}, {4, -1},
            {1, Probe.MAX}, {Probe.MAX, 1}, {Probe.MAX, 0}, {Probe.MAX, Probe.MAX}
        };
        for (int[] markAndPlaces : wrong) {
            p.mark(0, markAndPlaces[0]);
            p.act(Probe.PLACE, code, 0, 0, markAndPlaces[1]);
        }
        p.row(0, 1, 2, 3);
        p.mark(0, 3);
        p.act(Probe.DONE, code, 0, 0, 0);
        p.mark(0, 1);
        p.act(Probe.DONE, code, 0, 0, 2);
        p.row(0, 1, 0, 0);
    }
}
