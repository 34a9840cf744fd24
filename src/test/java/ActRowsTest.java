/** Promise 4: act() for the orders that move the cells of rows: SPLICE, TURN, OPEN, SHUT. */
public final class ActRowsTest {
    public static void main(String[] args) {
        spliceOfNumbers();
        spliceInOneRow();
        spliceOfFigures();
        spliceHasItsFirstRefusal();
        spliceOfUnlikeKinds();
        turn();
        open();
        shut();
        placesRefused(Probe.OPEN);
        placesRefused(Probe.SHUT);
        figuresMove();
        Probe.end();
    }

    private static void spliceOfNumbers() {
        for (int kind = 0; kind < 8; kind++) {
            Probe p = new Probe("splice of kind " + kind);
            p.numbers(0, kind, 0, 1, 1, 0, 1);
            p.act(Probe.DONE, Probe.MAKE, 1, kind, 4);
            p.mark(0, 1);
            p.mark(1, 1);
            p.act(Probe.DONE, Probe.SPLICE, 0, 1, 3);
            long one = p.cellNow(0, 1);
            p.row(1, 0, one, one, 0);
            p.row(0, 0, one, one, 0, one);
            p.look(1, 0, 2);
            p.look(1, 1, 2);
        }
    }

    private static void spliceInOneRow() {
        Probe p = new Probe("splice in one row");
        p.numbers(0, 4, 1, 2, 3, 4, 5);
        p.act(Probe.DONE, Probe.SHARE, 1, 0, 0);
        p.mark(1, 1);
        p.act(Probe.DONE, Probe.SPLICE, 0, 1, 4);
        p.row(0, 1, 1, 2, 3, 4);
        p.act(Probe.DONE, Probe.SPLICE, 1, 0, 4);
        p.row(1, 1, 2, 3, 4, 4);
        p.count(5 + 2, 5);
        p.mark(0, 2);
        p.act(Probe.DONE, Probe.SPLICE, 0, 0, 3);
        p.row(0, 1, 2, 3, 4, 4);
        p.count(5 + 2, 5);
    }

    private static void spliceOfFigures() {
        int[][] had = {{0, 1, 2, 3, 4}, {0, 2, 3}, {0, 3}, {0, 4}};
        for (int kind = 8; kind < 12; kind++) {
            for (int sort = 0; sort < 5; sort++) {
                Probe p = new Probe("splice of sort " + sort + " to kind " + kind);
                p.figures(0, 8, 0, sort, 0);
                p.act(Probe.DONE, Probe.MAKE, 1, kind, 4);
                boolean fits = java.util.Arrays.binarySearch(had[kind - 8], sort) >= 0;
                p.act(fits ? Probe.DONE : Probe.STORE, Probe.SPLICE, 0, 1, 3);
                p.row(1, 0, fits && sort != 0 ? 1 : 0, 0, 0);
            }
        }
        Probe p = new Probe("splice up to one that does not fit");
        p.figures(0, 8, 3, 0, 3, 2, 3);
        p.act(Probe.DONE, Probe.MAKE, 1, 10, 6);
        p.mark(1, 1);
        p.act(Probe.STORE, Probe.SPLICE, 0, 1, 5);
        p.row(1, 0, 1, 0, 2, 0, 0);
        p.row(0, 1, 0, 2, 3, 4);
        p.act(Probe.DONE, Probe.SPLICE, 0, 1, 3);
    }

    private static void spliceHasItsFirstRefusal() {
        Probe p = new Probe("first refusal of splice");
        p.act(Probe.DONE, Probe.HANG, 0, 1, 0);
        p.mark(0, -1);
        p.act(Probe.NOTHING, Probe.SPLICE, 0, 1, -1);
        p.act(Probe.NOTHING, Probe.SPLICE, 1, 0, -1);
        p.act(Probe.STORE, Probe.SPLICE, 0, 0, -1);
        p.figures(2, 8, 1, 4);
        p.figures(3, 11, 4, 4);
        p.mark(2, 1);
        p.act(Probe.PLACE, Probe.SPLICE, 2, 3, 2);
        p.mark(2, 0);
        p.act(Probe.PLACE, Probe.SPLICE, 2, 3, 3);
        p.act(Probe.STORE, Probe.SPLICE, 2, 3, 2);
        p.act(Probe.DONE, Probe.SPLICE, 2, 3, 0);
        p.row(3, 3, 4);
        p.mark(2, Probe.MAX);
        p.act(Probe.PLACE, Probe.SPLICE, 2, 3, Probe.MAX);
        p.act(Probe.PLACE, Probe.SPLICE, 3, 2, Probe.MAX);
        p.mark(2, Probe.MIN);
        p.act(Probe.PLACE, Probe.SPLICE, 2, 3, Probe.MIN);
        p.act(Probe.PLACE, Probe.SPLICE, 3, 2, Probe.MAX);
        p.act(Probe.PLACE, Probe.SPLICE, 3, 2, 0);
    }

    private static void spliceOfUnlikeKinds() {
        for (int kind = 0; kind < 12; kind++) {
            Probe p = new Probe("kind " + kind + " with others");
            p.act(Probe.DONE, Probe.MAKE, 0, kind, 2);
            for (int other = 0; other < 12; other++) {
                p.act(Probe.DONE, Probe.MAKE, 1, other, 3);
                boolean alike = kind == other || kind > 7 && other > 7;
                p.act(alike ? Probe.DONE : Probe.STORE, Probe.SPLICE, 0, 1, 0);
                p.act(alike ? Probe.DONE : Probe.STORE, Probe.SPLICE, 1, 0, 1);
                p.act(alike ? Probe.PLACE : Probe.STORE, Probe.SPLICE, 1, 0, 3);
            }
        }
    }

    private static void turn() {
        Probe p = new Probe("turn");
        p.act(Probe.NOTHING, Probe.TURN, 0, 0, 1);
        p.act(Probe.DONE, Probe.HANG, 0, 2, 0);
        p.act(Probe.STORE, Probe.TURN, 0, 0, 1);
        p.numbers(0, 4, 1, 2, 3, 4, 5);
        p.mark(0, -3);
        p.act(Probe.DONE, Probe.TURN, 0, 0, 1);
        p.row(0, 2, 3, 4, 5, 1);
        p.act(Probe.DONE, Probe.TURN, 0, 0, -1);
        p.row(0, 1, 2, 3, 4, 5);
        p.act(Probe.DONE, Probe.TURN, 0, 0, 13);
        p.row(0, 4, 5, 1, 2, 3);
        p.act(Probe.DONE, Probe.TURN, 0, 0, -13);
        p.row(0, 1, 2, 3, 4, 5);
        p.act(Probe.DONE, Probe.TURN, 0, 0, Probe.MAX);
        p.row(0, 3, 4, 5, 1, 2);
        p.act(Probe.DONE, Probe.TURN, 0, 0, Probe.MIN);
        p.row(0, 5, 1, 2, 3, 4);
        int kept = p.counted(5);
        p.act(Probe.DONE, Probe.TURN, 0, 0, 10);
        p.act(Probe.DONE, Probe.TURN, 0, 0, 0);
        p.row(0, 5, 1, 2, 3, 4);
        p.count(kept, 5);
        p.act(Probe.DONE, Probe.MAKE, 0, 4, 0);
        p.act(Probe.DONE, Probe.TURN, 0, 0, 3);
        p.act(Probe.DONE, Probe.TURN, 0, 0, Probe.MIN);
        p.row(0);
        p.act(Probe.DONE, Probe.MAKE, 0, 4, 1);
        p.act(Probe.DONE, Probe.TURN, 0, 0, -7);
        p.row(0, 0);
    }

    private static void open() {
        Probe p = new Probe("open");
        p.numbers(0, 4, 1, 2, 3, 4, 5);
        p.mark(0, 1);
        p.act(Probe.DONE, Probe.OPEN, 0, 0, 2);
        p.row(0, 1, 0, 0, 2, 3);
        p.mark(0, 0);
        p.act(Probe.DONE, Probe.OPEN, 0, 0, 1);
        p.row(0, 0, 1, 0, 0, 2);
        p.act(Probe.DONE, Probe.OPEN, 0, 0, 0);
        p.row(0, 0, 1, 0, 0, 2);
        p.mark(0, 4);
        p.act(Probe.DONE, Probe.OPEN, 0, 0, 1);
        p.row(0, 0, 1, 0, 0, 0);
        p.mark(0, 0);
        p.act(Probe.DONE, Probe.OPEN, 0, 0, 5);
        p.row(0, 0, 0, 0, 0, 0);
    }

    private static void shut() {
        Probe p = new Probe("shut");
        p.numbers(0, 4, 1, 2, 3, 4, 5);
        p.mark(0, 1);
        p.act(Probe.DONE, Probe.SHUT, 0, 0, 2);
        p.row(0, 1, 4, 5, 0, 0);
        p.mark(0, 0);
        p.act(Probe.DONE, Probe.SHUT, 0, 0, 1);
        p.row(0, 4, 5, 0, 0, 0);
        p.act(Probe.DONE, Probe.SHUT, 0, 0, 0);
        p.row(0, 4, 5, 0, 0, 0);
        p.numbers(1, 4, 6, 7);
        p.mark(1, 1);
        p.act(Probe.DONE, Probe.SHUT, 1, 0, 1);
        p.row(1, 6, 0);
        p.mark(1, 0);
        p.act(Probe.DONE, Probe.SHUT, 1, 0, 2);
        p.row(1, 0, 0);
    }

    private static void placesRefused(int code) {
        Probe p = new Probe("places of " + code);
        p.mark(0, -1);
        p.act(Probe.NOTHING, code, 0, 0, -1);
        p.act(Probe.DONE, Probe.HANG, 0, 1, 0);
        p.act(Probe.STORE, code, 0, 0, -1);
        p.act(Probe.DONE, Probe.HANG, 0, 3, 0);
        p.act(Probe.STORE, code, 0, 0, 0);
        p.numbers(0, 4, 1, 2, 3);
        p.act(Probe.PLACE, code, 0, 0, -1);
        p.act(Probe.PLACE, code, 0, 0, 4);
        p.act(Probe.PLACE, code, 0, 0, Probe.MAX);
        p.act(Probe.PLACE, code, 0, 0, Probe.MIN);
        p.mark(0, -1);
        p.act(Probe.PLACE, code, 0, 0, 1);
        p.act(Probe.PLACE, code, 0, 0, 0);
        p.mark(0, 3);
        p.act(Probe.DONE, code, 0, 0, 0);
        p.act(Probe.PLACE, code, 0, 0, 1);
        p.mark(0, 4);
        p.act(Probe.PLACE, code, 0, 0, 0);
        p.mark(0, Probe.MAX);
        p.act(Probe.PLACE, code, 0, 0, Probe.MAX);
        p.act(Probe.PLACE, code, 0, 0, 1);
        p.row(0, 1, 2, 3);
        p.mark(0, 2);
        p.act(Probe.PLACE, code, 0, 0, 2);
        p.act(Probe.DONE, code, 0, 0, 1);
        p.row(0, 1, 2, 0);
    }

    private static void figuresMove() {
        Probe p = new Probe("figures move");
        p.figures(0, 9, 2, 3, 2, 0);
        p.mark(0, 1);
        p.act(Probe.DONE, Probe.OPEN, 0, 0, 1);
        p.row(0, 1, 0, 2, 3);
        p.act(Probe.DONE, Probe.TURN, 0, 0, 3);
        p.row(0, 3, 1, 0, 2);
        p.act(Probe.DONE, Probe.SHUT, 0, 0, 2);
        p.row(0, 3, 2, 0, 0);
    }
}
