/** Promises 7 to 10: look(), cell(), sort() and count(). */
public final class AnswersTest {
    public static void main(String[] args) {
        look();
        lookForTheSameThing();
        cell();
        sort();
        count();
        countOfRuns();
        Probe.end();
    }

    private static void look() {
        Probe p = new Probe("look");
        for (int kind = 0; kind < 12; kind++) {
            p.act(Probe.DONE, Probe.MAKE, 4, kind, 2 * kind);
            p.look(kind, 4, 0);
            p.look(2 * kind, 4, 1);
        }
        p.act(Probe.DONE, Probe.HANG, 9, 1, 0);
        p.look(12, 9, 0);
        p.look(Probe.NONE, 9, 1);
        p.look(9, 9, 3);
        for (int sort = 1; sort <= 4; sort++) {
            p.act(Probe.DONE, Probe.HANG, 0, sort + 1, 0);
            p.look(12 + sort, 0, 0);
            p.look(sort, 0, 1);
        }
        p.mark(3, -77);
        p.look(-77, 3, 2);
        p.look(Probe.NONE, 3, 0);
        p.look(Probe.NONE, 3, 1);
        p.look(Probe.NONE, 3, 3);
        for (int what : new int[] {-1, 4, 5, Probe.MIN, Probe.MAX}) {
            p.look(Probe.NONE, 4, what);
            p.look(Probe.NONE, 3, what);
        }
        for (int k : new int[] {-1, 10, Probe.MIN, Probe.MAX}) {
            for (int what = -1; what < 5; what++) {
                p.look(Probe.NONE, k, what);
            }
        }
    }

    private static void lookForTheSameThing() {
        Probe p = new Probe("same thing");
        p.act(Probe.DONE, Probe.HANG, 5, 1, 0);
        p.act(Probe.DONE, Probe.HANG, 2, 1, 0);
        p.act(Probe.DONE, Probe.SHARE, 8, 5, 0);
        p.look(5, 5, 3);
        p.look(5, 8, 3);
        p.look(2, 2, 3);
        p.act(Probe.DONE, Probe.SHARE, 1, 8, 0);
        p.look(1, 5, 3);
        p.look(1, 8, 3);
        p.act(Probe.DONE, Probe.HANG, 1, 0, 0);
        p.look(5, 8, 3);
        // The same figure by way of a row, and another of its sort.
        p.act(Probe.DONE, Probe.HANG, 3, 4, 0);
        p.act(Probe.DONE, Probe.HANG, 4, 4, 0);
        p.act(Probe.DONE, Probe.MAKE, 0, 10, 1);
        p.act(Probe.DONE, Probe.SEAT, 0, 4, 0);
        p.act(Probe.DONE, Probe.LIFT, 0, 9, 0);
        p.look(4, 9, 3);
        p.look(3, 3, 3);
        // Rows with the same cells are not the same.
        p.act(Probe.DONE, Probe.TWIN, 7, 0, 0);
        p.look(7, 7, 3);
        p.look(0, 0, 3);
    }

    private static void cell() {
        Probe p = new Probe("cell");
        p.numbers(0, 5, -1, 2, Probe.MIN);
        p.cell(-1, 0, 0);
        p.cell(2, 0, 1);
        p.cell(Probe.MIN, 0, 2);
        for (int i : new int[] {-1, 3, 64, Probe.MIN, Probe.MAX}) {
            p.cell(0, 0, i);
        }
        for (int k : new int[] {-1, 10, Probe.MIN, Probe.MAX}) {
            p.cell(0, k, 0);
        }
        p.cell(0, 1, 0);
        p.act(Probe.DONE, Probe.HANG, 1, 1, 0);
        p.cell(0, 1, 0);
        p.act(Probe.DONE, Probe.HANG, 1, 3, 0);
        p.cell(0, 1, 0);
        p.numbers(2, 6, -1, 1);
        p.row(2, Float.floatToRawIntBits(-1f), Float.floatToRawIntBits(1f));
        p.numbers(3, 7, -1, 1);
        p.row(3, Double.doubleToRawLongBits(-1), Double.doubleToRawLongBits(1));
        p.figures(4, 8, 0, 4, 1);
        p.row(4, 0, 2, 3);
        p.act(Probe.DONE, Probe.MAKE, 5, 4, 64);
        p.mark(5, 63);
        p.act(Probe.DONE, Probe.PIN, 5, 0, 8);
        p.cell(8, 5, 63);
    }

    private static void sort() {
        Probe p = new Probe("sort");
        p.sort(Probe.NONE, 1);
        for (int number = 1; number <= 8; number++) {
            int sort = number * 3 % 4 + 1;
            p.act(Probe.DONE, Probe.HANG, 0, sort + 1, 0);
            p.sort(sort, number);
            p.sort(Probe.NONE, number + 1);
        }
        p.sort(4, 1);
        for (int number : new int[] {0, -1, 9, 400, 401, Probe.MIN, Probe.MAX}) {
            p.sort(Probe.NONE, number);
        }
    }

    private static void count() {
        Probe p = new Probe("count");
        p.tune(Probe.MARK, 0, 0, 1, Probe.MARK, 0, 0, 1);
        p.numbers(0, 4, 1, 2, 3);
        p.act(Probe.DONE, Probe.TWIN, 1, 0, 0);
        p.act(Probe.DONE, Probe.HANG, 2, 2, 0);
        p.act(Probe.DONE, Probe.HANG, 3, 1, 0);
        p.act(Probe.DONE, Probe.HANG, 2, 0, 0);
        p.act(Probe.NOTHING, Probe.TURN, 2, 0, 0);
        p.act(Probe.SIZE, Probe.MAKE, 2, 0, -1);
        p.act(Probe.NONE, Probe.MAKE, 2, 12, 0);
        int[] due = {2, 14, 2, 6, 1, 3, 2, 0, 0, Probe.NONE};
        for (int what = 0; what < due.length; what++) {
            p.count(due[what], what);
        }
        for (int what : new int[] {-1, 10, Probe.MIN, Probe.MAX}) {
            p.count(Probe.NONE, what);
        }
    }

    private static void countOfRuns() {
        Probe p = new Probe("count of runs");
        p.tune(Probe.MARK, 0, 0, 1, Probe.TURN, 0, 0, 1);
        p.run(Probe.NOTHING, 9);
        p.count(2, 8);
        p.count(1, 9);
        p.run(Probe.NONE, 301);
        p.run(Probe.NONE, -1);
        p.act(Probe.NOTHING, Probe.TURN, 1, 0, 1);
        p.count(2, 8);
        p.count(1, 9);
        p.run(Probe.MAY_NOT, 1);
        p.count(1, 8);
        p.count(Probe.NONE, 9);
        p.tune(Probe.WHEN, 1, 0, 0);
        p.run(0, 2);
        p.count(2, 8);
        p.count(Probe.NONE, 9);
        p.count(3, 6);
        p.count(1, 7);
        p.count(2 + 1 + 1 + 2, 1);
        p.run(0, 300);
        p.count(2, 7);
        p.run(Probe.MAY_NOT, 0);
        p.count(0, 8);
        p.count(Probe.NONE, 9);
    }
}
