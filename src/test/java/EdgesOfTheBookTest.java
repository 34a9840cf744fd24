/** ==== 3, THE BOOK: a test of its own for each part of its sentence that names an edge. */
public final class EdgesOfTheBookTest {
    public static void main(String[] args) {
        refusedOneToo();
        rowThatWasThereAhead();
        cellThatIsWhatItWas();
        otherRowsAreNotWritten();
        floatsByTheirBits();
        figuresByBeingTheSame();
        cellsOfAhead();
        latestTwenty();
        latestTwentyRoundAndRound();
        Probe.end();
    }

    private static void refusedOneToo() {
        Probe p = new Probe("when, behind an ORDER (a refused one, too)");
        p.figures(0, 8, 3, 3, 1);
        p.make(Probe.DONE, 1, 10, 3);
        p.count(3, 5);
        p.splice(Probe.STORE, 0, 1, 3);
        p.row(1, 1, 2, 0);
        p.count(4, 5);
        // It brings the same again, so nothing isn't what it was.
        p.splice(Probe.STORE, 0, 1, 3);
        p.count(4, 5);
        // The first does not fit: nothing comes.
        p.mark(0, 2);
        p.splice(Probe.STORE, 0, 1, 1);
        p.count(4, 5);
        p.back(true);
        p.row(1, 0, 0, 0);
        Probe q = new Probe("in a run | when, behind an ORDER (a refused one, too)");
        q.figures(0, 8, 3, 1);
        q.make(Probe.DONE, 1, 10, 2);
        q.tune(Probe.SPLICE, 0, 1, 2, Probe.WHEN, 2, 0, 0, Probe.TURN, 1, 0, 1);
        q.run(0, 300);
        q.row(1, 0, 1);
        q.count(4, 5);
        q.back(true);
        q.row(1, 1, 0);
        q.back(true);
        q.row(1, 0, 0);
    }

    private static void rowThatWasThereAhead() {
        Probe p = new Probe("of a ROW that was there ahead");
        p.numbers(0, 4, 1, 2);
        p.count(2, 5);
        // Another row on the spindle has other cells, but the row that was there has not.
        p.make(Probe.DONE, 0, 4, 2);
        p.numbers(1, 4, 3);
        p.count(3, 5);
        p.twin(Probe.DONE, 0, 1);
        p.hang(Probe.DONE, 1, 0);
        p.share(1, 0);
        p.swap(1, 2);
        p.count(3, 5);
        p.back(true);
        p.row(0, 3);
        p.row(2, 3);
    }

    private static void cellThatIsWhatItWas() {
        Probe p = new Probe("a CELL of a ROW that was there ahead isn't what it was");
        p.numbers(0, 4, 5, 5, 0);
        p.numbers(1, 4, 5, 5, 0);
        p.count(4, 5);
        p.pin(Probe.DONE, 0, 5);
        p.turn(Probe.DONE, 0, 0);
        p.turn(Probe.DONE, 0, 3);
        p.turn(Probe.DONE, 0, -6);
        p.open(Probe.DONE, 0, 0);
        p.shut(Probe.DONE, 0, 0);
        p.splice(Probe.DONE, 1, 0, 3);
        p.splice(Probe.DONE, 1, 0, 0);
        p.splice(Probe.DONE, 0, 0, 2);
        p.mark(0, 2);
        p.open(Probe.DONE, 0, 1);
        p.shut(Probe.DONE, 0, 1);
        p.pin(Probe.DONE, 0, 0);
        p.count(4, 5);
        // The last cell alone, and all: once each.
        p.pin(Probe.DONE, 0, 1);
        p.count(5, 5);
        p.mark(0, 0);
        p.shut(Probe.DONE, 0, 3);
        p.count(6, 5);
    }

    private static void otherRowsAreNotWritten() {
        Probe p = new Probe("that ROW's CELLS of ahead are written into the book");
        p.numbers(0, 4, 1, 2);
        p.numbers(1, 4, 3, 4);
        p.splice(Probe.DONE, 0, 1, 2);
        p.count(5, 5);
        p.back(true);
        p.row(1, 3, 4);
        p.row(0, 1, 2);
        // Shared by two spindles it is one row, and written once.
        p.share(2, 0);
        p.turn(Probe.DONE, 2, 1);
        p.count(5, 5);
        p.back(true);
        p.row(0, 1, 2);
    }

    private static void floatsByTheirBits() {
        Probe p = new Probe("(floats and doubles by their bits");
        p.make(Probe.DONE, 0, 6, 1);
        p.make(Probe.DONE, 1, 7, 1);
        p.pin(Probe.DONE, 0, 0);
        p.pin(Probe.DONE, 1, 0);
        p.count(0, 5);
        p.pin(Probe.DONE, 0, 16777216);
        p.pin(Probe.DONE, 1, 16777216);
        p.count(2, 5);
        // No float lies between: the bits stay. A double does.
        p.pin(Probe.DONE, 0, 16777217);
        p.count(2, 5);
        p.pin(Probe.DONE, 1, 16777217);
        p.count(3, 5);
        p.pin(Probe.DONE, 0, -16777216);
        p.count(4, 5);
        p.back(true);
        p.cell(0x4b800000L, 0, 0);
        p.back(true);
        p.cell(0x4170000000000000L, 1, 0);
    }

    private static void figuresByBeingTheSame() {
        Probe p = new Probe("FIGURES by whether it is the same one)");
        p.make(Probe.DONE, 0, 9, 1);
        p.hang(Probe.DONE, 1, 3);
        p.hang(Probe.DONE, 2, 3);
        p.seat(Probe.DONE, 0, 1);
        p.count(1, 5);
        p.share(3, 1);
        p.seat(Probe.DONE, 0, 3);
        p.count(1, 5);
        // Another of its sort isn't the same.
        p.seat(Probe.DONE, 0, 2);
        p.count(2, 5);
        p.lift(Probe.DONE, 0, 4);
        p.seat(Probe.DONE, 0, 4);
        p.count(2, 5);
        p.seat(Probe.DONE, 0, 9);
        p.count(3, 5);
        p.seat(Probe.DONE, 0, 9);
        p.count(3, 5);
        p.back(true);
        p.row(0, 2);
        p.back(true);
        p.row(0, 1);
    }

    private static void cellsOfAhead() {
        Probe p = new Probe("a row of 64 | that ROW's CELLS of ahead are written into the book");
        p.make(Probe.DONE, 0, 4, 64);
        p.tune(Probe.PIN, 0, 0, 7, Probe.TURN, 0, 0, -1, Probe.AGAIN, 0, 2, 20);
        p.run(0, 300);
        p.run(0, 300);
        p.run(0, 300);
        p.run(0, 300);
        for (int i = 0; i < 64; i++) {
            p.cell(7, 0, i);
        }
        p.open(Probe.DONE, 0, 64);
        for (int i = 0; i < 64; i++) {
            p.cell(0, 0, i);
        }
        p.back(true);
        for (int i = 0; i < 64; i++) {
            p.cell(7, 0, i);
        }
    }

    private static void latestTwenty() {
        Probe p = new Probe("which keeps the latest 20.");
        p.make(Probe.DONE, 0, 4, 1);
        for (int i = 1; i <= 20; i++) {
            p.pin(Probe.DONE, 0, i);
            p.count(i, 5);
        }
        p.pin(Probe.DONE, 0, 21);
        p.count(20, 5);
        p.pin(Probe.DONE, 0, 22);
        p.count(20, 5);
        for (int i = 21; i >= 2; i--) {
            p.back(true);
            p.cell(i, 0, 0);
        }
        p.count(0, 5);
        p.back(false);
        p.cell(2, 0, 0);
    }

    private static void latestTwentyRoundAndRound() {
        Probe p = new Probe("rows of several lengths | which keeps the latest 20.");
        p.make(Probe.DONE, 0, 4, 64);
        p.make(Probe.DONE, 1, 5, 1);
        p.mark(0, 63);
        int written = 0;
        for (int round = 1; round <= 3; round++) {
            for (int i = 0; i < 15; i++) {
                p.pin(Probe.DONE, 0, 100 * round + i);
                p.pin(Probe.DONE, 1, 200 * round + i);
                written = Math.min(20, written + 2);
            }
            p.count(20, 5);
            for (int i = 14; i > 7; i--) {
                p.back(true);
                p.cell(200 * round + i - 1, 1, 0);
                p.cell(100 * round + i, 0, 63);
                p.back(true);
                p.cell(100 * round + i - 1, 0, 63);
                written -= 2;
            }
            p.count(written, 5);
        }
        for (int i = 0; i < 3; i++) {
            p.back(true);
            p.back(true);
        }
        p.back(false);
        p.cell(304, 0, 63);
        p.cell(604, 1, 0);
    }
}
