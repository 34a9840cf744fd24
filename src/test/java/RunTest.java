/** Promise 5: run(), with WHEN, AGAIN, what may not begin, and a workshop that is worn out. */
public final class RunTest {
    public static void main(String[] args) {
        wrongMost();
        oneBehindTheOther();
        mayNotBegin();
        refusalsEnd();
        whenMeets();
        whenIsLookedPast();
        whenLeaps();
        again();
        againInAgain();
        againIsCountedAnew();
        againAtZero();
        againAndWhen();
        wornOut();
        Probe.end();
    }

    private static void wrongMost() {
        Probe p = new Probe("wrong most");
        p.tune(Probe.MARK, 0, 0, 4);
        for (int most : new int[] {-1, 301, Probe.MIN, Probe.MAX}) {
            p.run(Probe.NONE, most);
        }
        p.look(0, 0, 2);
        p.count(0, 1);
        p.run(0, 300);
        p.look(4, 0, 2);
    }

    private static void oneBehindTheOther() {
        Probe p = new Probe("one behind the other");
        p.run(0, 0);
        p.tune(Probe.MAKE, 0, 4, 3, Probe.PIN, 0, 0, 5, Probe.MARK, 0, 0, 1, Probe.PIN, 0, 0, 6);
        p.run(0, 4);
        p.row(0, 5, 6, 0);
        p.count(4, 1);
        // The mark is 1 from the first run on, so both pins of the second come to one cell.
        p.run(0, 300);
        p.row(0, 0, 6, 0);
    }

    private static void mayNotBegin() {
        Probe p = new Probe("may not begin");
        p.tune(Probe.MARK, 0, 0, 1, Probe.MARK, 1, 0, 2, Probe.TURN, 2, 0, 0);
        p.run(Probe.MAY_NOT, 0);
        p.count(0, 8);
        p.run(Probe.MAY_NOT, 1);
        p.look(1, 0, 2);
        p.look(0, 1, 2);
        p.run(Probe.MAY_NOT, 2);
        p.look(2, 1, 2);
        p.count(2, 8);
        p.run(Probe.NOTHING, 3);
        p.count(3, 8);
        // A refusal that a WHEN meets behind the last that may begin.
        p.tune(Probe.WHEN, 1, 0, 0);
        p.run(0, 3);
        p.tune(Probe.MARK, 3, 0, 7);
        p.run(Probe.MAY_NOT, 3);
        p.run(0, 4);
        p.look(7, 3, 2);
    }

    private static void refusalsEnd() {
        Probe p = new Probe("refusals end");
        p.act(Probe.DONE, Probe.HANG, 0, 1, 0);
        p.act(Probe.DONE, Probe.MAKE, 1, 4, 2);
        int[][] refused = {
            {Probe.TURN, 5, 0, 1}, {Probe.TURN, 0, 0, 1}, {Probe.OPEN, 1, 0, 3}, {Probe.MAKE, 2, 4, 65},
            {Probe.MAKE, 2, 4, -1}
        };
        for (int r = 1; r <= 5; r++) {
            int[] o = refused[r - 1];
            p.cut(true, 0);
            p.tune(Probe.MARK, 9, 0, r, o[0], o[1], o[2], o[3], Probe.MARK, 9, 0, 99);
            p.run(r, 300);
            p.look(r, 9, 2);
            p.count(2, 8);
            p.count(1, 9);
            p.cut(true, 2);
            p.run(r, 2);
        }
        p.count(10, 6);
        p.count(0, 7);
    }

    private static void whenMeets() {
        Probe p = new Probe("when meets");
        for (int a = 0; a <= 5; a++) {
            p.cut(true, 0);
            p.mark(9, 0);
            p.tune(Probe.TURN, 5, 0, 1, Probe.WHEN, a, 0, 2, Probe.MARK, 9, 0, 3);
            boolean met = a == 0 || a == Probe.NOTHING;
            p.run(met ? 0 : Probe.NOTHING, 300);
            p.look(met ? 3 : 0, 9, 2);
            p.count(met ? 2 : 1, 8);
            p.count(met ? Probe.NONE : 0, 9);
        }
        p.count(6, 6);
        p.count(2, 7);
    }

    private static void whenIsLookedPast() {
        Probe p = new Probe("when is looked past");
        p.tune(Probe.TURN, 5, 0, 1, Probe.WHEN, 2, 0, 1, Probe.MARK, 9, 0, 1, Probe.WHEN, 3, 0, 0,
                Probe.WHEN, 1, 0, 5, Probe.MARK, 8, 0, 2);
        p.run(0, 300);
        p.look(0, 9, 2);
        p.look(2, 8, 2);
        p.count(2, 8);
        p.count(1, 7);
        // What is looked at is no WHEN, or is beyond the last order.
        p.cut(true, 0);
        p.tune(Probe.TURN, 5, 0, 1, Probe.WHEN, 2, 0, 0, Probe.MARK, 9, 0, 1, Probe.WHEN, 0, 0, 0);
        p.run(Probe.NOTHING, 300);
        p.cut(true, 0);
        p.tune(Probe.TURN, 5, 0, 1, Probe.WHEN, 2, 0, 60, Probe.WHEN, 0, 0, 0);
        p.run(Probe.NOTHING, 300);
        p.cut(true, 0);
        p.tune(Probe.TURN, 5, 0, 1, Probe.WHEN, 2, 0, 0);
        p.run(Probe.NOTHING, 300);
        p.count(1, 7);
        // Nothing but what stands right behind the refused order is looked at first.
        p.cut(true, 0);
        p.tune(Probe.WHEN, 0, 0, 0, Probe.TURN, 5, 0, 1, Probe.MARK, 9, 0, 1, Probe.WHEN, 0, 0, 0);
        p.run(Probe.NOTHING, 300);
        p.count(1, 9);
    }

    private static void whenLeaps() {
        Probe p = new Probe("when leaps");
        p.tune(Probe.WHEN, 0, 0, 2, Probe.MARK, 1, 0, 1, Probe.MARK, 2, 0, 1, Probe.MARK, 3, 0, 1);
        p.run(0, 2);
        p.look(0, 1, 2);
        p.look(0, 2, 2);
        p.look(1, 3, 2);
        p.count(2, 8);
        p.count(2, 1);
        p.cut(true, 0);
        p.tune(Probe.WHEN, 5, 0, 60, Probe.MARK, 1, 0, 1);
        p.run(0, 1);
        p.look(0, 1, 2);
        p.cut(true, 0);
        p.tune(Probe.MARK, 4, 0, 6, Probe.WHEN, 0, 0, 0, Probe.MARK, 5, 0, 6);
        p.run(0, 300);
        p.look(6, 4, 2);
        p.look(6, 5, 2);
        p.count(0, 6);
        p.count(0, 7);
    }

    private static void again() {
        Probe p = new Probe("again");
        p.numbers(0, 4, 1, 2, 3, 4, 5, 6, 7);
        for (int c : new int[] {0, 1, 2, 20}) {
            p.cut(true, 0);
            p.tune(Probe.TURN, 0, 0, 1, Probe.AGAIN, 0, 1, c, Probe.MARK, 9, 0, c);
            p.run(0, 300);
            p.count(2 * (c + 1) + 1, 8);
            p.look(c, 9, 2);
        }
        // 1 + 2 + 3 + 21 turns of a row of seven.
        p.row(0, 7, 1, 2, 3, 4, 5, 6);
    }

    private static void againInAgain() {
        Probe p = new Probe("again in again");
        p.act(Probe.DONE, Probe.MAKE, 0, 4, 64);
        p.act(Probe.DONE, Probe.PIN, 0, 0, 1);
        p.tune(Probe.TURN, 0, 0, -1, Probe.AGAIN, 0, 1, 2, Probe.AGAIN, 0, 2, 3);
        p.run(0, 300);
        p.count(3 * 4 * 2 + 4, 8);
        p.cell(1, 0, 12);
    }

    private static void againIsCountedAnew() {
        Probe p = new Probe("again is counted anew");
        p.tune(Probe.MARK, 0, 0, 0, Probe.AGAIN, 0, 1, 5);
        p.run(Probe.MAY_NOT, 5);
        p.run(0, 12);
        p.count(12, 8);
        p.run(0, 12);
        p.run(Probe.MAY_NOT, 11);
    }

    private static void againAtZero() {
        Probe p = new Probe("again at 0");
        p.act(Probe.DONE, Probe.MAKE, 0, 4, 64);
        p.act(Probe.DONE, Probe.PIN, 0, 0, 1);
        p.tune(Probe.TURN, 0, 0, -1, Probe.TURN, 0, 0, -1, Probe.AGAIN, 0, 60, 3);
        p.run(0, 300);
        p.cell(1, 0, 8);
        p.cut(true, 0);
        p.tune(Probe.AGAIN, 0, 1, 20);
        p.run(0, 21);
        p.count(21, 8);
        p.run(Probe.MAY_NOT, 20);
        p.run(Probe.MAY_NOT, 20);
        p.run(0, 21);
        p.cut(true, 0);
        // Two back is right behind the first, not at it.
        p.tune(Probe.TURN, 0, 0, -8, Probe.TURN, 0, 0, -1, Probe.MARK, 1, 0, 0, Probe.AGAIN, 0, 2, 1);
        p.run(0, 300);
        p.cell(1, 0, 18);
    }

    private static void againAndWhen() {
        Probe p = new Probe("again and when");
        p.numbers(0, 4, 1, 2, 3);
        // A WHEN further on does not meet it: what stands behind the refused order is an AGAIN.
        p.tune(Probe.MARK, 0, 0, 3, Probe.OPEN, 0, 0, 0, Probe.OPEN, 0, 0, 1, Probe.AGAIN, 0, 2, 20,
                Probe.WHEN, 0, 0, 1, Probe.MARK, 1, 0, 5);
        p.run(Probe.PLACE, 300);
        p.count(2, 9);
        p.count(3, 8);
        p.cut(true, 3);
        p.tune(Probe.WHEN, 3, 0, 0, Probe.MARK, 1, 0, 6, Probe.AGAIN, 0, 3, 2);
        p.run(0, 300);
        p.count(1 + 1 + 3 * 3, 8);
        p.count(4, 6);
        p.count(3, 7);
        p.look(6, 1, 2);
        // Leapt over, an AGAIN is not begun and keeps what it has done.
        p.cut(true, 0);
        p.act(Probe.DONE, Probe.HANG, 2, 0, 0);
        p.tune(Probe.TURN, 2, 0, 0, Probe.WHEN, 1, 0, 1, Probe.WHEN, 0, 0, 1, Probe.AGAIN, 0, 2, 20,
                Probe.AGAIN, 0, 4, 2);
        p.run(0, 300);
        p.count(3 * 3, 8);
    }

    private static void wornOut() {
        Probe p = new Probe("worn out");
        p.wear(3998);
        p.run(0, 0);
        p.count(Probe.NONE, 9);
        p.tune(Probe.MARK, 0, 0, 1, Probe.MARK, 0, 0, 2);
        p.run(0, 2);
        p.run(Probe.WORN_OUT, 300);
        p.count(0, 8);
        p.count(0, 9);
        p.run(Probe.WORN_OUT, 0);
        p.count(0, 9);
        p.count(0, 6);
        p.cut(true, 0);
        p.run(0, 300);
        p.count(Probe.NONE, 9);

        Probe q = new Probe("worn out in a run");
        q.wear(3999);
        q.tune(Probe.TURN, 0, 0, 1, Probe.WHEN, 0, 0, 0, Probe.MARK, 0, 0, 2);
        q.run(Probe.WORN_OUT, 300);
        q.count(2, 9);
        q.count(1, 8);
        q.count(1, 6);
        q.count(1, 7);
        q.look(0, 0, 2);
        q.count(4000, 1);

        Probe r = new Probe("worn out goes ahead of what may not begin");
        r.wear(3999);
        r.tune(Probe.MARK, 0, 0, 1, Probe.WHEN, 0, 0, 0);
        r.run(Probe.WORN_OUT, 1);
        r.count(1, 9);
        r.count(1, 8);
        r.look(1, 0, 2);
    }
}
