/** Promises 1 to 10: a test of its own for each sentence that names an edge; the probe bears the sentence. */
public final class EdgesOfPromisesTest {
    private static final String NOT_AS_TOLD = "a spindle, a KIND or another number isn't one as told";
    private static final int[] CODES_OF_A_AND_B = {
        Probe.SPLICE, Probe.TWIN, Probe.SHARE, Probe.SWAP, Probe.SEAT, Probe.LIFT
    };

    public static void main(String[] args) {
        fiveHundredAndTwelveCalls();
        newObject();
        orderComesBehind();
        orderIfThereAreSixty();
        orderOfNoSuchCode();
        orderNotAsTold();
        cutToTheFirst();
        cutRefused();
        actAtOnce();
        actNotAsTold();
        runMost();
        runEnded();
        runRefused();
        runMayNot();
        runWornOutGoesAhead();
        runOfAnotherNumber();
        backTakesTheLast();
        backOfAnEmptyBook();
        lookAtWhatItHolds();
        lookAtLengthAndNumber();
        lookAtTheMark();
        lookAtTheLeastSpindle();
        lookAtAnother();
        cellOfEachKind();
        cellThatIsNone();
        sortOfEach();
        sortOfNone();
        countOfTheTune();
        countOfTheBegun();
        countOfTheMade();
        countOfTheBook();
        countOfRefusals();
        countOfThoseMet();
        countOfRuns();
        countOfTheEnder();
        countAheadOfAnyRun();
        countOfTheLatestThatWasNoNone();
        countOfAnother();
        Probe.end();
    }

    private static void fiveHundredAndTwelveCalls() {
        Probe p = new Probe("An object is used for at most 512 calls after it has been made");
        p.make(Probe.DONE, 0, 5, 2);
        p.order(0, Probe.TURN, 0, 0, 1);
        for (int i = 1; i <= 127; i++) {
            p.pin(Probe.DONE, 0, i);
            p.run(0, 1);
            p.cell(i, 0, 1);
            p.look(0, 0, 3);
        }
        p.back(true);
        p.count(1 + 2 * 127, 1);
    }

    private static void newObject() {
        Probe p = new Probe("All spindles hold nothing; no TUNE; the book is empty.");
        for (int k = 0; k < 10; k++) {
            p.look(Probe.NONE, k, 0);
            p.look(Probe.NONE, k, 1);
            p.look(Probe.NONE, k, 3);
            p.cell(0, k, 0);
            p.turn(Probe.NOTHING, k, 1);
        }
        p.count(0, 0);
        p.run(0, 300);
        p.count(0, 5);
        p.back(false);
    }

    private static void orderComesBehind() {
        Probe p = new Probe("An ORDER comes behind the TUNE's others: its number.");
        p.order(0, Probe.MARK, 0, 0, 1);
        p.order(1, Probe.MARK, 0, 0, 2);
        p.order(2, Probe.MARK, 0, 0, 3);
        // It isn't done, only put there.
        p.look(0, 0, 2);
        p.count(0, 1);
        p.run(Probe.MAY_NOT, 2);
        p.look(2, 0, 2);
        p.run(0, 3);
        p.look(3, 0, 2);
        p.cut(true, 1);
        p.order(1, Probe.MARK, 0, 0, 4);
    }

    private static void orderIfThereAreSixty() {
        Probe p = new Probe("NONE, and none comes, if there are 60");
        for (int i = 0; i < 60; i++) {
            p.order(i, Probe.MARK, 0, 0, i);
        }
        for (int code = 0; code <= 14; code++) {
            p.order(Probe.NONE, code, 1, 1, 1);
        }
        p.count(60, 0);
        p.run(0, 60);
        p.count(60, 8);
        p.look(59, 0, 2);
    }

    private static void orderOfNoSuchCode() {
        Probe p = new Probe("there is no such code");
        for (int code : new int[] {-1, 15, 16, Probe.MIN, Probe.MAX}) {
            p.order(Probe.NONE, code, 1, 1, 1);
        }
        p.count(0, 0);
        for (int code = 0; code <= 14; code++) {
            p.order(code, code, 1, 1, 1);
        }
        p.count(15, 0);
    }

    private static void orderNotAsTold() {
        Probe p = new Probe("order | " + NOT_AS_TOLD);
        for (int wrong : new int[] {-1, 10, Probe.MIN, Probe.MAX}) {
            for (int code = 0; code <= 12; code++) {
                p.order(Probe.NONE, code, wrong, 0, 0);
            }
            for (int code : CODES_OF_A_AND_B) {
                p.order(Probe.NONE, code, 0, wrong, 0);
            }
        }
        for (int wrong : new int[] {-1, 12, Probe.MIN, Probe.MAX}) {
            p.order(Probe.NONE, Probe.MAKE, 0, wrong, 0);
            p.order(Probe.NONE, Probe.HANG, 0, wrong, 0);
        }
        p.order(Probe.NONE, Probe.HANG, 0, 6, 0);
        p.order(Probe.NONE, Probe.WHEN, 6, 0, 0);
        p.order(Probe.NONE, Probe.WHEN, 0, 0, 61);
        p.order(Probe.NONE, Probe.AGAIN, 0, 0, 0);
        p.order(Probe.NONE, Probe.AGAIN, 0, 61, 0);
        p.order(Probe.NONE, Probe.AGAIN, 0, 1, 21);
        p.count(0, 0);
        p.order(0, Probe.MAKE, 9, 11, Probe.MIN);
        p.order(1, Probe.HANG, 9, 5, Probe.MAX);
        for (int code : CODES_OF_A_AND_B) {
            p.order(p.counted(0), code, 9, 9, Probe.MIN);
        }
        p.count(8, 0);
    }

    private static void cutToTheFirst() {
        Probe p = new Probe("The TUNE has its first n ORDERS alone: true");
        p.cut(true, 0);
        p.tune(Probe.MARK, 0, 0, 1, Probe.MARK, 0, 0, 2, Probe.MARK, 0, 0, 3);
        p.cut(true, 3);
        p.run(0, 300);
        p.look(3, 0, 2);
        p.cut(true, 1);
        p.count(1, 0);
        p.run(0, 300);
        p.look(1, 0, 2);
        p.cut(true, 0);
        p.count(0, 0);
        p.run(0, 300);
        p.count(0, 8);
    }

    private static void cutRefused() {
        Probe p = new Probe("false, and nothing happens, if it has not so many, or n is below 0.");
        p.cut(false, 1);
        p.cut(false, -1);
        p.tune(Probe.MARK, 0, 0, 1, Probe.MARK, 0, 0, 2);
        for (int n : new int[] {3, 60, 61, Probe.MAX, -1, -2, Probe.MIN}) {
            p.cut(false, n);
            p.count(2, 0);
        }
        p.run(0, 300);
        p.look(2, 0, 2);
        p.cut(true, 1);
        p.cut(false, 2);
        p.count(1, 0);
    }

    private static void actAtOnce() {
        Probe p = new Probe("One ORDER (0 .. 12) is done at once: 0, or its REFUSAL.");
        int[][] orders = {
            {Probe.DONE, Probe.MAKE, 0, 8, 2}, {Probe.DONE, Probe.HANG, 1, 2, 0}, {Probe.DONE, Probe.SEAT, 0, 1, 0},
            {Probe.DONE, Probe.LIFT, 0, 2, 0}, {Probe.DONE, Probe.TURN, 0, 0, 1}, {Probe.DONE, Probe.TWIN, 3, 0, 0},
            {Probe.DONE, Probe.SHARE, 4, 3, 0}, {Probe.DONE, Probe.SWAP, 4, 5, 0}, {Probe.DONE, Probe.MARK, 0, 0, 1},
            {Probe.DONE, Probe.SPLICE, 0, 3, 1}, {Probe.DONE, Probe.OPEN, 3, 0, 1}, {Probe.DONE, Probe.SHUT, 0, 0, 1},
            {Probe.STORE, Probe.PIN, 0, 0, 1}, {Probe.NOTHING, Probe.TURN, 9, 0, 1}, {Probe.PLACE, Probe.OPEN, 0, 0, 2},
            {Probe.ROOM, Probe.MAKE, 9, 0, 65}, {Probe.SIZE, Probe.MAKE, 9, 0, -1}
        };
        for (int i = 0; i < orders.length; i++) {
            p.act(orders[i][0], orders[i][1], orders[i][2], orders[i][3], orders[i][4]);
            p.count(i + 1, 1);
        }
        p.row(3, 0, 1);
        p.row(0, 0, 0);
        p.count(0, 0);
    }

    private static void actNotAsTold() {
        Probe p = new Probe("act | NONE, and nothing happens, if it isn't one as told.");
        p.numbers(0, 4, 1, 2);
        p.hang(Probe.DONE, 1, 2);
        p.tune(Probe.MARK, 0, 0, 1);
        int begun = p.counted(1);
        String state = p.state();
        for (int code : new int[] {-1, Probe.WHEN, Probe.AGAIN, 15, Probe.MIN, Probe.MAX}) {
            p.act(Probe.NONE, code, 1, 1, 1);
        }
        for (int wrong : new int[] {-1, 10, Probe.MIN, Probe.MAX}) {
            for (int code = 0; code <= 12; code++) {
                p.act(Probe.NONE, code, wrong, 0, 1);
            }
            for (int code : CODES_OF_A_AND_B) {
                p.act(Probe.NONE, code, 0, wrong, 1);
            }
        }
        p.make(Probe.NONE, 0, -1, 1);
        p.make(Probe.NONE, 0, 12, 1);
        p.hang(Probe.NONE, 0, -1);
        p.hang(Probe.NONE, 0, 6);
        p.stillAs(state);
        p.count(begun, 1);
        p.count(0, 6);
    }

    private static void runMost() {
        Probe p = new Probe("The TUNE is run, at most so many ORDERS are begun (0 .. 300)");
        p.tune(Probe.MARK, 0, 0, 1, Probe.AGAIN, 0, 1, 20, Probe.AGAIN, 0, 2, 20);
        for (int most : new int[] {0, 1, 2, 299, 300}) {
            int begun = p.counted(1);
            p.run(Probe.MAY_NOT, most);
            p.count(most, 8);
            p.count(begun + most, 1);
        }
        // As many as there are, and one less.
        p.cut(true, 2);
        p.run(0, 42);
        p.run(Probe.MAY_NOT, 41);
    }

    private static void runEnded() {
        Probe p = new Probe("0 it ended");
        p.run(0, 0);
        p.run(0, 300);
        p.tune(Probe.TURN, 9, 0, 1, Probe.WHEN, 0, 0, 0);
        p.run(0, 1);
        p.run(0, 300);
        p.cut(true, 0);
        p.tune(Probe.WHEN, 0, 0, 60);
        p.run(0, 1);
    }

    private static void runRefused() {
        Probe p = new Probe("1 .. 6 the REFUSAL that ended it");
        p.hang(Probe.DONE, 0, 1);
        p.make(Probe.DONE, 1, 4, 2);
        int[][] orders = {
            {Probe.TURN, 9, 0, 1}, {Probe.TURN, 0, 0, 1}, {Probe.OPEN, 1, 0, 3}, {Probe.MAKE, 2, 4, 65},
            {Probe.MAKE, 2, 4, -1}
        };
        for (int r = 1; r <= 5; r++) {
            p.cut(true, 0);
            p.tune(orders[r - 1][0], orders[r - 1][1], orders[r - 1][2], orders[r - 1][3]);
            p.run(r, 300);
            // It was begun, so that it ended goes ahead of one more that may not.
            p.run(r, 1);
            p.run(Probe.MAY_NOT, 0);
        }
        p.wear(4000 - 12);
        p.tune(Probe.MARK, 0, 0, 1);
        p.run(Probe.WORN_OUT, 300);
    }

    private static void runMayNot() {
        Probe p = new Probe("7 one would have begun that may not");
        p.tune(Probe.MARK, 0, 0, 1, Probe.MARK, 0, 0, 2);
        p.run(Probe.MAY_NOT, 0);
        p.look(0, 0, 2);
        p.run(Probe.MAY_NOT, 1);
        p.look(1, 0, 2);
        p.run(0, 2);
        p.look(2, 0, 2);
        // A WHEN and an AGAIN are such, too; a WHEN that meets is not.
        p.cut(true, 1);
        p.tune(Probe.WHEN, 0, 0, 0);
        p.run(Probe.MAY_NOT, 1);
        p.cut(true, 1);
        p.tune(Probe.AGAIN, 0, 1, 0);
        p.run(Probe.MAY_NOT, 1);
        p.cut(true, 0);
        p.tune(Probe.TURN, 9, 0, 1, Probe.WHEN, 0, 0, 0, Probe.TURN, 9, 0, 1);
        p.run(Probe.MAY_NOT, 1);
        p.count(1, 7);
        p.run(Probe.NOTHING, 2);
    }

    private static void runWornOutGoesAhead() {
        Probe p = new Probe("(WORN OUT goes ahead of that)");
        p.wear(3999);
        p.tune(Probe.MARK, 0, 0, 1, Probe.MARK, 0, 0, 2);
        p.run(Probe.MAY_NOT, 0);
        p.run(Probe.WORN_OUT, 1);
        p.look(1, 0, 2);
        p.count(1, 8);
        p.count(1, 9);
        p.run(Probe.WORN_OUT, 0);
        p.count(0, 8);
        p.count(0, 9);
        p.cut(true, 0);
        // Without an order there is none that would have begun.
        p.run(0, 0);
    }

    private static void runOfAnotherNumber() {
        Probe p = new Probe("run | NONE, and nothing happens, for another number.");
        p.tune(Probe.MARK, 0, 0, 1, Probe.TURN, 9, 0, 1);
        p.run(Probe.NOTHING, 300);
        p.mark(0, 7);
        String state = p.state();
        for (int most : new int[] {-1, 301, Probe.MIN, Probe.MAX}) {
            p.run(Probe.NONE, most);
        }
        p.stillAs(state);
        p.count(3, 1);
        p.count(1, 6);
        p.look(7, 0, 2);
    }

    private static void backTakesTheLast() {
        Probe p = new Probe(
                "The ROW of which the book was written last gets these CELLS again, which go out of the book: true");
        p.make(Probe.DONE, 0, 4, 2);
        p.make(Probe.DONE, 1, 4, 2);
        p.pin(Probe.DONE, 0, 5);
        p.pin(Probe.DONE, 1, 6);
        p.turn(Probe.DONE, 0, 1);
        // Wherever the row is now, and whatever its spindle holds.
        p.swap(0, 3);
        p.make(Probe.DONE, 0, 4, 2);
        p.count(3, 5);
        p.back(true);
        p.row(3, 5, 0);
        p.row(0, 0, 0);
        p.row(1, 6, 0);
        p.count(2, 5);
        p.back(true);
        p.row(1, 0, 0);
        p.row(3, 5, 0);
        p.count(1, 5);
        // No ORDER: it isn't begun, and writes nothing.
        p.count(7, 1);
        p.hang(Probe.DONE, 3, 0);
        p.back(true);
        p.count(0, 5);
        p.back(false);
    }

    private static void backOfAnEmptyBook() {
        Probe p = new Probe("false if the book is empty.");
        p.back(false);
        p.make(Probe.DONE, 0, 4, 1);
        p.hang(Probe.DONE, 1, 2);
        p.mark(0, 0);
        p.back(false);
        p.pin(Probe.DONE, 0, 3);
        p.back(true);
        p.back(false);
        p.row(0, 0);
        for (int i = 1; i <= 21; i++) {
            p.pin(Probe.DONE, 0, i);
        }
        for (int i = 1; i <= 20; i++) {
            p.back(true);
        }
        String state = p.state();
        p.back(false);
        p.stillAs(state);
        p.row(0, 1);
    }

    private static void lookAtWhatItHolds() {
        Probe p = new Probe("NONE nothing, a ROW's KIND, 12 a CRANK, 12 and its SORT a FIGURE");
        p.look(Probe.NONE, 9, 0);
        for (int kind = 0; kind <= 11; kind++) {
            p.make(Probe.DONE, 9, kind, 0);
            p.look(kind, 9, 0);
        }
        for (int what = 1; what <= 5; what++) {
            p.hang(Probe.DONE, 9, what);
            p.look(11 + what, 9, 0);
        }
        p.hang(Probe.DONE, 9, 0);
        p.look(Probe.NONE, 9, 0);
    }

    private static void lookAtLengthAndNumber() {
        Probe p = new Probe("the LENGTH of its ROW, a FIGURE's number, NONE for others (1)");
        p.look(Probe.NONE, 0, 1);
        for (int length : new int[] {0, 1, 63, 64}) {
            p.make(Probe.DONE, 0, 11, length);
            p.look(length, 0, 1);
        }
        p.hang(Probe.DONE, 0, 1);
        p.look(Probe.NONE, 0, 1);
        p.hang(Probe.DONE, 0, 5);
        p.look(1, 0, 1);
        p.hang(Probe.DONE, 0, 2);
        p.look(2, 0, 1);
    }

    private static void lookAtTheMark() {
        Probe p = new Probe("the MARK (2)");
        p.look(0, 9, 2);
        for (int mark : new int[] {-1, Probe.MIN, Probe.MAX, 64}) {
            p.mark(9, mark);
            p.look(mark, 9, 2);
            p.hang(Probe.DONE, 9, 1);
            p.look(mark, 9, 2);
            p.look(0, 8, 2);
        }
    }

    private static void lookAtTheLeastSpindle() {
        Probe p = new Probe("the least spindle that holds the same THING, NONE for nothing (3)");
        p.look(Probe.NONE, 0, 3);
        p.look(Probe.NONE, 9, 3);
        p.hang(Probe.DONE, 9, 1);
        p.look(9, 9, 3);
        p.share(4, 9);
        p.look(4, 9, 3);
        p.share(0, 9);
        p.look(0, 9, 3);
        p.look(0, 0, 3);
        p.hang(Probe.DONE, 0, 1);
        p.look(4, 9, 3);
        p.look(0, 0, 3);
        p.make(Probe.DONE, 1, 4, 0);
        p.twin(Probe.DONE, 2, 1);
        p.look(2, 2, 3);
        p.hang(Probe.DONE, 5, 2);
        p.hang(Probe.DONE, 6, 2);
        p.look(6, 6, 3);
    }

    private static void lookAtAnother() {
        Probe p = new Probe("NONE for another what, or k.");
        p.make(Probe.DONE, 0, 4, 3);
        p.hang(Probe.DONE, 9, 2);
        for (int what : new int[] {-1, 4, Probe.MIN, Probe.MAX}) {
            p.look(Probe.NONE, 0, what);
            p.look(Probe.NONE, 9, what);
            p.look(Probe.NONE, 5, what);
        }
        for (int k : new int[] {-1, 10, Probe.MIN, Probe.MAX}) {
            for (int what = 0; what < 4; what++) {
                p.look(Probe.NONE, k, what);
            }
        }
    }

    private static void cellOfEachKind() {
        Probe p = new Probe(
                "a number (of floats their 32 bits as an int, of doubles their 64), or the FIGURE's number (0: none)");
        for (int kind = 0; kind < 6; kind++) {
            p.numbers(0, kind, 1, 0);
            p.row(0, 1, 0);
        }
        p.numbers(0, 6, -2, 2, 0);
        p.row(0, 0xffffffffc0000000L, 0x40000000L, 0);
        p.numbers(0, 7, -2, 2, 0);
        p.row(0, 0xc000000000000000L, 0x4000000000000000L, 0);
        p.figures(0, 8, 0, 4, 1, 0);
        p.row(0, 0, 1, 2, 0);
        p.make(Probe.DONE, 9, 4, 64);
        p.mark(9, 63);
        p.pin(Probe.DONE, 9, 5);
        p.cell(5, 9, 63);
    }

    private static void cellThatIsNone() {
        Probe p = new Probe("0 if there is none such.");
        p.numbers(0, 4, 1, 2);
        for (int i : new int[] {-1, 2, 3, 64, Probe.MIN, Probe.MAX}) {
            p.cell(0, 0, i);
        }
        for (int k : new int[] {-1, 10, Probe.MIN, Probe.MAX}) {
            p.cell(0, k, 0);
            p.cell(0, k, k);
        }
        p.cell(0, 1, 0);
        for (int what = 1; what <= 5; what++) {
            p.hang(Probe.DONE, 1, what);
            p.cell(0, 1, 0);
            p.cell(0, 1, 1);
        }
        p.make(Probe.DONE, 1, 4, 0);
        p.cell(0, 1, 0);
    }

    private static void sortOfEach() {
        Probe p = new Probe("The SORT of the FIGURE of this number");
        for (int sort = 4; sort >= 1; sort--) {
            p.hang(Probe.DONE, 0, sort + 1);
        }
        p.hang(Probe.DONE, 0, 0);
        for (int number = 1; number <= 4; number++) {
            p.sort(5 - number, number);
        }
        p.tune(Probe.HANG, 0, 2, 0, Probe.AGAIN, 0, 1, 20);
        for (int i = 0; i < 18; i++) {
            p.run(0, 300);
        }
        p.run(Probe.ROOM, 300);
        p.sort(1, 5);
        p.sort(1, 400);
    }

    private static void sortOfNone() {
        Probe p = new Probe("sort | NONE if there is none such.");
        p.sort(Probe.NONE, 0);
        p.sort(Probe.NONE, 1);
        p.hang(Probe.DONE, 0, 3);
        p.hang(Probe.DONE, 0, 1);
        p.make(Probe.DONE, 0, 8, 1);
        p.sort(2, 1);
        for (int number : new int[] {0, -1, 2, 400, 401, Probe.MIN, Probe.MAX}) {
            p.sort(Probe.NONE, number);
        }
    }

    private static void countOfTheTune() {
        Probe p = new Probe("0 ORDERS of the TUNE");
        p.count(0, 0);
        for (int i = 1; i <= 60; i++) {
            p.order(i - 1, Probe.WHEN, 0, 0, 0);
            p.count(i, 0);
        }
        p.order(Probe.NONE, Probe.WHEN, 0, 0, 0);
        p.count(60, 0);
        p.cut(true, 7);
        p.count(7, 0);
    }

    private static void countOfTheBegun() {
        Probe p = new Probe("1 ORDERS that were begun in all");
        p.turn(Probe.NOTHING, 0, 1);
        p.count(1, 1);
        p.act(Probe.NONE, Probe.WHEN, 0, 0, 0);
        p.order(0, Probe.TURN, 0, 0, 1);
        p.back(false);
        p.count(1, 1);
        p.order(1, Probe.WHEN, 0, 0, 0);
        p.order(2, Probe.AGAIN, 0, 1, 1);
        // TURN, AGAIN, and then the WHEN that is come to, and the AGAIN anew.
        p.run(0, 300);
        p.count(5, 1);
        p.wear(3995);
        p.count(4000, 1);
        p.turn(Probe.WORN_OUT, 0, 1);
        p.count(4000, 1);
    }

    private static void countOfTheMade() {
        Probe p = new Probe("2 ROWS, 3 CELLS, 4 FIGURES that were made");
        made(p, 0, 0, 0);
        p.make(Probe.DONE, 0, 4, 5);
        made(p, 1, 5, 0);
        p.twin(Probe.DONE, 0, 0);
        made(p, 2, 10, 0);
        p.make(Probe.DONE, 0, 8, 0);
        made(p, 3, 10, 0);
        p.make(Probe.SIZE, 0, 4, -1);
        p.make(Probe.ROOM, 0, 4, 65);
        p.hang(Probe.DONE, 0, 1);
        made(p, 3, 10, 0);
        p.hang(Probe.DONE, 0, 4);
        p.hang(Probe.DONE, 0, 0);
        p.share(0, 1);
        p.swap(0, 2);
        made(p, 3, 10, 1);
    }

    private static void made(Probe p, int rows, int cells, int figures) {
        p.count(rows, 2);
        p.count(cells, 3);
        p.count(figures, 4);
    }

    private static void countOfTheBook() {
        Probe p = new Probe("5 what the book keeps");
        p.count(0, 5);
        p.make(Probe.DONE, 0, 4, 1);
        p.count(0, 5);
        for (int i = 1; i <= 22; i++) {
            p.pin(Probe.DONE, 0, i);
            p.count(Math.min(i, 20), 5);
        }
        for (int i = 19; i >= 0; i--) {
            p.back(true);
            p.count(i, 5);
        }
        p.back(false);
        p.count(0, 5);
    }

    private static void countOfRefusals() {
        Probe p = new Probe("6 REFUSALS 1 .. 5 in all");
        p.hang(Probe.DONE, 0, 1);
        p.make(Probe.DONE, 1, 4, 1);
        p.turn(Probe.NOTHING, 9, 1);
        p.count(1, 6);
        p.turn(Probe.STORE, 0, 1);
        p.count(2, 6);
        p.open(Probe.PLACE, 1, 2);
        p.count(3, 6);
        p.make(Probe.ROOM, 1, 4, 65);
        p.count(4, 6);
        p.make(Probe.SIZE, 1, 4, -1);
        p.count(5, 6);
        p.make(Probe.NONE, 1, 12, 1);
        p.tune(Probe.TURN, 9, 0, 1, Probe.WHEN, 0, 0, 0, Probe.TURN, 9, 0, 1);
        p.run(Probe.NOTHING, 300);
        p.count(7, 6);
        p.run(Probe.MAY_NOT, 0);
        p.count(7, 6);
        p.wear(4000 - p.counted(1));
        p.turn(Probe.WORN_OUT, 9, 1);
        p.count(7, 6);
    }

    private static void countOfThoseMet() {
        Probe p = new Probe("7 those that a WHEN met");
        p.count(0, 7);
        p.turn(Probe.NOTHING, 9, 1);
        p.tune(Probe.WHEN, 0, 0, 0, Probe.TURN, 9, 0, 1);
        p.run(Probe.NOTHING, 300);
        p.count(0, 7);
        p.tune(Probe.WHEN, 2, 0, 0, Probe.WHEN, 1, 0, 0, Probe.TURN, 9, 0, 1, Probe.WHEN, 0, 0, 0);
        p.run(0, 300);
        p.count(2, 7);
        p.run(Probe.MAY_NOT, 2);
        p.count(3, 7);
        p.count(5, 6);
    }

    private static void countOfRuns() {
        Probe p = new Probe("8 ORDERS that it began");
        p.tune(Probe.MARK, 0, 0, 1, Probe.MARK, 0, 0, 2, Probe.TURN, 9, 0, 1, Probe.MARK, 0, 0, 3);
        for (int most = 0; most <= 2; most++) {
            p.run(Probe.MAY_NOT, most);
            p.count(most, 8);
        }
        // The one that is refused was begun.
        p.run(Probe.NOTHING, 300);
        p.count(3, 8);
        p.mark(0, 1);
        p.count(3, 8);
        p.cut(true, 2);
        p.run(0, 300);
        p.count(2, 8);
        p.cut(true, 0);
        p.run(0, 300);
        p.count(0, 8);
    }

    private static void countOfTheEnder() {
        Probe p = new Probe("9 the ORDER whose REFUSAL ended it (WORN OUT, too), NONE if none did (also by 7");
        p.tune(Probe.TURN, 9, 0, 1);
        p.run(Probe.NOTHING, 300);
        p.count(0, 9);
        p.run(Probe.MAY_NOT, 0);
        p.count(Probe.NONE, 9);
        p.tune(Probe.WHEN, 1, 0, 0, Probe.MARK, 0, 0, 1, Probe.TURN, 9, 0, 1, Probe.WHEN, 2, 0, 0);
        p.run(Probe.NOTHING, 300);
        p.count(3, 9);
        p.run(Probe.MAY_NOT, 2);
        p.count(Probe.NONE, 9);
        p.cut(true, 3);
        p.run(0, 300);
        p.count(Probe.NONE, 9);
        p.wear(3998 - p.counted(1));
        p.tune(Probe.MARK, 0, 0, 1, Probe.WHEN, 0, 0, 0, Probe.MARK, 0, 0, 2);
        p.run(Probe.WORN_OUT, 300);
        p.count(2, 9);
        p.run(Probe.WORN_OUT, 0);
        p.count(0, 9);
    }

    private static void countAheadOfAnyRun() {
        Probe p = new Probe("8, 9: 0, NONE ahead of any)");
        p.count(0, 8);
        p.count(Probe.NONE, 9);
        p.turn(Probe.NOTHING, 0, 1);
        p.tune(Probe.TURN, 0, 0, 1);
        p.run(Probe.NONE, 301);
        p.count(0, 8);
        p.count(Probe.NONE, 9);
    }

    private static void countOfTheLatestThatWasNoNone() {
        Probe p = new Probe("of the latest run() that was none of NONE");
        p.tune(Probe.MARK, 0, 0, 1, Probe.TURN, 9, 0, 1);
        p.run(Probe.NOTHING, 300);
        for (int most : new int[] {-1, 301, Probe.MIN, Probe.MAX}) {
            p.run(Probe.NONE, most);
            p.count(2, 8);
            p.count(1, 9);
        }
        p.cut(true, 0);
        p.mark(0, 0);
        p.count(2, 8);
        p.count(1, 9);
        p.run(0, 0);
        p.count(0, 8);
        p.count(Probe.NONE, 9);
    }

    private static void countOfAnother() {
        Probe p = new Probe("NONE for another what.");
        p.make(Probe.DONE, 0, 4, 1);
        for (int what : new int[] {-1, 10, 11, Probe.MIN, Probe.MAX}) {
            p.count(Probe.NONE, what);
        }
    }
}
