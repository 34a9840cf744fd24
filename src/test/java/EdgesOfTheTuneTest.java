/** ==== 4, with WHEN and AGAIN of ==== 3: a test of its own for each sentence that names an edge of a tune. */
public final class EdgesOfTheTuneTest {
    public static void main(String[] args) {
        whenOrders();
        againOrders();
        areOrdersAndBegun();
        haveNoRefusalButWornOut();
        atMostSixty();
        sixtyAreRun();
        fromZeroOn();
        refusedByEach();
        theOneBehindIsLookedAt();
        neitherZeroNorIt();
        furtherOn();
        furtherOnBeyondTheLast();
        goesOnRightBehind();
        aWhenRightBehindAWhenThatMet();
        metWhenIsNotBegun();
        runEndsByIt();
        whenLeaps();
        whenIsComeToByAgain();
        againGoesOnAhead();
        againAtZero();
        againLessThanSoOften();
        againSinceTheRunBegan();
        againSinceItWentOnBehind();
        againEachForItself();
        endsBehindTheLast();
        endsWhenOneLeapsBeyond();
        Probe.end();
    }

    private static void whenOrders() {
        Probe p = new Probe("13 WHEN: a 0 .. 5, c 0 .. 60.");
        p.order(0, Probe.WHEN, 0, 0, 0);
        p.order(1, Probe.WHEN, 5, 0, 60);
        for (int a : new int[] {-1, 6, Probe.MIN, Probe.MAX}) {
            p.order(Probe.NONE, Probe.WHEN, a, 0, 0);
        }
        for (int c : new int[] {-1, 61, Probe.MIN, Probe.MAX}) {
            p.order(Probe.NONE, Probe.WHEN, 0, 0, c);
        }
        p.count(2, 0);
    }

    private static void againOrders() {
        Probe p = new Probe("14 AGAIN: b 1 .. 60, c 0 .. 20.");
        p.order(0, Probe.AGAIN, 0, 1, 0);
        p.order(1, Probe.AGAIN, 0, 60, 20);
        for (int b : new int[] {0, -1, 61, Probe.MIN, Probe.MAX}) {
            p.order(Probe.NONE, Probe.AGAIN, 0, b, 1);
        }
        for (int c : new int[] {-1, 21, Probe.MIN, Probe.MAX}) {
            p.order(Probe.NONE, Probe.AGAIN, 0, 1, c);
        }
        p.count(2, 0);
    }

    private static void areOrdersAndBegun() {
        Probe p = new Probe("(Each is an ORDER, is begun");
        p.tune(Probe.WHEN, 0, 0, 0, Probe.AGAIN, 0, 1, 0);
        p.run(Probe.MAY_NOT, 0);
        p.count(0, 1);
        p.run(Probe.MAY_NOT, 1);
        p.count(1, 1);
        p.count(1, 8);
        p.run(0, 2);
        p.count(3, 1);
        p.count(2, 8);
    }

    private static void haveNoRefusalButWornOut() {
        Probe p = new Probe("and has no REFUSAL but WORN OUT.)");
        // Their numbers would be spindles that hold nothing, or none at all.
        p.tune(Probe.WHEN, 5, 99, 0, Probe.AGAIN, 99, 60, 1, Probe.AGAIN, -1, 1, 0);
        p.run(0, 300);
        p.count(0, 6);
        p.wear(4000 - 5);
        p.tune(Probe.WHEN, 0, 0, 0);
        p.run(Probe.WORN_OUT, 300);
        p.cut(true, 0);
        p.tune(Probe.AGAIN, 0, 1, 0);
        p.run(Probe.WORN_OUT, 300);
        p.count(0, 9);
        p.count(0, 6);
    }

    private static void atMostSixty() {
        Probe p = new Probe("A TUNE has at most 60 ORDERS, numbered from 0 on.");
        for (int i = 0; i < 60; i++) {
            p.order(i, Probe.MARK, 0, 0, i);
        }
        p.order(Probe.NONE, Probe.MARK, 0, 0, 60);
        p.order(Probe.NONE, Probe.WHEN, 0, 0, 0);
        p.count(60, 0);
        p.cut(true, 58);
        p.order(58, Probe.MARK, 0, 0, 7);
        p.order(59, Probe.MARK, 0, 0, 8);
        p.order(Probe.NONE, Probe.MARK, 0, 0, 9);
    }

    private static void sixtyAreRun() {
        Probe p = new Probe("60 orders | It is run from ORDER 0 on, one behind the other.");
        for (int i = 0; i < 59; i++) {
            p.order(i, Probe.MARK, i % 10, 0, i);
        }
        p.order(59, Probe.TURN, 0, 0, 1);
        p.run(Probe.NOTHING, 300);
        p.count(60, 8);
        p.count(59, 9);
        p.look(50, 0, 2);
        p.look(58, 8, 2);
        p.look(49, 9, 2);
    }

    private static void fromZeroOn() {
        Probe p = new Probe("It is run from ORDER 0 on, one behind the other.");
        p.run(0, 300);
        p.tune(Probe.MAKE, 0, 4, 2, Probe.PIN, 0, 0, 3, Probe.TURN, 0, 0, 1, Probe.PIN, 0, 0, 4);
        p.run(Probe.MAY_NOT, 2);
        p.row(0, 3, 0);
        // Not where the last one ended, but from the first one on.
        p.run(0, 4);
        p.row(0, 4, 3);
        p.count(2, 2);
    }

    /** An order that is refused by r, on an object that holds a crank on 0 and a row of two on 1. */
    private static int[] refusedBy(int r) {
        int[][] orders = {
            {Probe.TURN, 9, 0, 1}, {Probe.TURN, 0, 0, 1}, {Probe.OPEN, 1, 0, 3}, {Probe.MAKE, 2, 4, 65},
            {Probe.MAKE, 2, 4, -1}
        };
        return orders[r - 1];
    }

    private static Probe withCrankAndRow(String sentence) {
        Probe p = new Probe(sentence);
        p.hang(Probe.DONE, 0, 1);
        p.make(Probe.DONE, 1, 4, 2);
        return p;
    }

    private static void refusedByEach() {
        Probe p = withCrankAndRow("When an ORDER is refused by 1 .. 5 (r), the ORDER behind it is looked at");
        for (int r = 1; r <= 5; r++) {
            int[] o = refusedBy(r);
            p.cut(true, 0);
            p.tune(o[0], o[1], o[2], o[3]);
            p.run(r, 300);
            p.tune(Probe.WHEN, r, 0, 0, Probe.MARK, 5, 0, r);
            p.run(0, 300);
            p.look(r, 5, 2);
            p.cut(true, 1);
            p.tune(Probe.WHEN, 0, 0, 0, Probe.MARK, 6, 0, r);
            p.run(0, 300);
            p.look(r, 6, 2);
        }
        p.count(15, 6);
        p.count(10, 7);
    }

    private static void theOneBehindIsLookedAt() {
        Probe p = new Probe("the ORDER behind it is looked at");
        p.tune(Probe.WHEN, 0, 0, 0, Probe.TURN, 9, 0, 1, Probe.MARK, 0, 0, 1, Probe.WHEN, 0, 0, 0);
        p.run(Probe.NOTHING, 300);
        p.count(1, 9);
        p.look(0, 0, 2);
        p.cut(true, 0);
        p.tune(Probe.TURN, 9, 0, 1, Probe.AGAIN, 0, 1, 1, Probe.WHEN, 0, 0, 0);
        p.run(Probe.NOTHING, 300);
        p.count(1, 8);
    }

    private static void neitherZeroNorIt() {
        Probe p = withCrankAndRow("as long as that is a WHEN, whose a is neither 0 nor r");
        for (int r = 1; r <= 5; r++) {
            for (int a = 0; a <= 5; a++) {
                int[] o = refusedBy(r);
                p.cut(true, 0);
                p.tune(o[0], o[1], o[2], o[3], Probe.WHEN, a, 0, 0);
                p.run(a == 0 || a == r ? 0 : r, 300);
            }
        }
        p.count(30, 6);
        p.count(10, 7);
    }

    private static void furtherOn() {
        Probe p = new Probe("the one c + 1 further on is looked at instead");
        p.tune(Probe.TURN, 9, 0, 1, Probe.WHEN, 2, 0, 0, Probe.WHEN, 3, 0, 2, Probe.WHEN, 1, 0, 0, Probe.WHEN, 0, 0, 0,
                Probe.WHEN, 1, 0, 0, Probe.MARK, 0, 0, 8);
        p.run(0, 2);
        p.look(8, 0, 2);
        p.count(2, 8);
        p.count(1, 7);
        // Those that were leapt are no WHENs that could meet it, nor is the one short of it.
        p.cut(true, 0);
        p.tune(Probe.TURN, 9, 0, 1, Probe.WHEN, 2, 0, 1, Probe.WHEN, 1, 0, 0, Probe.MARK, 0, 0, 9, Probe.WHEN, 1, 0, 0);
        p.run(Probe.NOTHING, 300);
        p.look(8, 0, 2);
        p.count(0, 9);
        p.count(1, 7);
    }

    private static void furtherOnBeyondTheLast() {
        Probe p = new Probe("beyond the last | the one c + 1 further on is looked at instead");
        p.tune(Probe.TURN, 9, 0, 1, Probe.WHEN, 2, 0, 0);
        p.run(Probe.NOTHING, 300);
        p.cut(true, 1);
        p.tune(Probe.WHEN, 2, 0, 60, Probe.WHEN, 0, 0, 0);
        p.run(Probe.NOTHING, 300);
        p.cut(true, 1);
        for (int i = 1; i < 60; i++) {
            p.order(i, Probe.WHEN, 2, 0, 0);
        }
        p.run(Probe.NOTHING, 300);
        p.count(0, 9);
        p.cut(true, 59);
        p.order(59, Probe.WHEN, 1, 0, 60);
        p.run(0, 300);
        p.count(1, 8);
        // A WHEN that was cut away is none that could be looked at.
        p.cut(true, 59);
        p.run(Probe.NOTHING, 300);
    }

    private static void goesOnRightBehind() {
        Probe p = new Probe("if it is a WHEN now (a is 0 or r), it goes on right behind this one");
        p.tune(Probe.TURN, 9, 0, 1, Probe.WHEN, 1, 0, 60, Probe.MARK, 0, 0, 3, Probe.MARK, 1, 0, 4);
        p.run(0, 3);
        p.look(3, 0, 2);
        p.look(4, 1, 2);
        p.cut(true, 1);
        p.tune(Probe.WHEN, 0, 0, 1, Probe.MARK, 0, 0, 5);
        p.run(0, 2);
        p.look(5, 0, 2);
    }

    private static void aWhenRightBehindAWhenThatMet() {
        Probe p = new Probe("a WHEN | it goes on right behind this one");
        p.tune(Probe.TURN, 9, 0, 1, Probe.WHEN, 1, 0, 0, Probe.WHEN, 1, 0, 1, Probe.MARK, 0, 0, 3, Probe.MARK, 1, 0, 4);
        p.run(0, 300);
        p.look(0, 0, 2);
        p.look(4, 1, 2);
        p.count(3, 8);
        p.count(1, 7);
        // What is refused there is met by a WHEN of its own.
        p.cut(true, 2);
        p.tune(Probe.TURN, 8, 0, 1, Probe.WHEN, 0, 0, 0, Probe.MARK, 0, 0, 6);
        p.run(0, 300);
        p.look(6, 0, 2);
        p.count(3, 6);
        p.count(3, 7);
    }

    private static void metWhenIsNotBegun() {
        Probe p = new Probe("(this WHEN isn't begun)");
        p.tune(Probe.TURN, 9, 0, 1, Probe.WHEN, 2, 0, 0, Probe.WHEN, 1, 0, 0);
        p.run(0, 1);
        p.count(1, 8);
        p.count(1, 1);
        p.wear(3998);
        p.tune(Probe.TURN, 9, 0, 1, Probe.WHEN, 1, 0, 0);
        p.run(0, 300);
        p.count(4000, 1);
    }

    private static void runEndsByIt() {
        Probe p = withCrankAndRow("if not, the run ends by that refusal");
        for (int r = 1; r <= 5; r++) {
            int[] o = refusedBy(r);
            p.cut(true, 0);
            p.tune(Probe.MARK, 5, 0, r, o[0], o[1], o[2], o[3], Probe.MARK, 5, 0, 99, Probe.WHEN, 0, 0, 0);
            p.run(r, 300);
            p.look(r, 5, 2);
            p.count(1, 9);
            p.count(2, 8);
        }
        p.count(0, 7);
    }

    private static void whenLeaps() {
        Probe p = new Probe("A WHEN that is come to otherwise leaps the c ORDERS behind it.");
        p.tune(Probe.WHEN, 1, 0, 0, Probe.MARK, 0, 0, 1, Probe.WHEN, 0, 0, 1, Probe.MARK, 1, 0, 1, Probe.WHEN, 5, 0, 2,
                Probe.MARK, 2, 0, 1, Probe.MARK, 3, 0, 1, Probe.MARK, 4, 0, 1);
        p.run(0, 5);
        p.look(1, 0, 2);
        p.look(0, 1, 2);
        p.look(0, 2, 2);
        p.look(0, 3, 2);
        p.look(1, 4, 2);
        p.count(5, 8);
        p.count(0, 7);
    }

    private static void whenIsComeToByAgain() {
        Probe p = new Probe("by an AGAIN | A WHEN that is come to otherwise leaps the c ORDERS behind it.");
        p.tune(Probe.TURN, 9, 0, 1, Probe.WHEN, 1, 0, 1, Probe.HANG, 0, 2, 0, Probe.AGAIN, 0, 2, 2);
        // Met at first, so the figure is hung; behind that the WHEN leaps it.
        p.run(0, 300);
        p.count(1, 4);
        p.count(1 + 2 + 2 + 2, 8);
        p.count(1, 7);
    }

    private static void againGoesOnAhead() {
        Probe p = new Probe("it goes on b ORDERS ahead of it");
        p.tune(Probe.HANG, 0, 2, 0, Probe.HANG, 0, 3, 0, Probe.HANG, 0, 4, 0, Probe.AGAIN, 0, 1, 1);
        p.run(0, 300);
        int[] sorts = {1, 2, 3, 3};
        for (int i = 0; i < sorts.length; i++) {
            p.sort(sorts[i], i + 1);
        }
        p.cut(true, 3);
        p.tune(Probe.AGAIN, 0, 3, 1);
        p.run(0, 300);
        int[] more = {1, 2, 3, 1, 2, 3};
        for (int i = 0; i < more.length; i++) {
            p.sort(more[i], i + 5);
        }
        p.count(10, 4);
    }

    private static void againAtZero() {
        Probe p = new Probe("(at 0, if there are not as many)");
        p.tune(Probe.HANG, 0, 2, 0, Probe.HANG, 0, 3, 0, Probe.AGAIN, 0, 3, 1);
        p.run(0, 6);
        p.count(4, 4);
        p.cut(true, 2);
        p.tune(Probe.AGAIN, 0, 60, 1);
        p.run(0, 6);
        p.count(8, 4);
        p.sort(1, 7);
        // It stands at 0 itself.
        p.cut(true, 0);
        p.tune(Probe.AGAIN, 0, 1, 20);
        p.run(0, 21);
        p.count(21, 8);
        p.cut(true, 0);
        for (int i = 0; i < 59; i++) {
            p.order(i, Probe.MARK, 0, 0, 0);
        }
        p.order(59, Probe.AGAIN, 0, 60, 1);
        p.run(0, 120);
    }

    private static void againLessThanSoOften() {
        Probe p = new Probe("as long as that AGAIN has done so less than c times");
        for (int c : new int[] {0, 1, 19, 20}) {
            int figures = p.counted(4);
            p.cut(true, 0);
            p.tune(Probe.HANG, 0, 2, 0, Probe.AGAIN, 0, 1, c);
            p.run(0, 2 * (c + 1));
            p.count(2 * (c + 1), 8);
            p.count(figures + c + 1, 4);
        }
    }

    private static void againSinceTheRunBegan() {
        Probe p = new Probe("since the run began");
        p.tune(Probe.HANG, 0, 2, 0, Probe.AGAIN, 0, 1, 2);
        p.run(Probe.MAY_NOT, 4);
        p.run(0, 6);
        p.count(6, 8);
        p.cut(true, 0);
        p.tune(Probe.HANG, 0, 2, 0, Probe.AGAIN, 0, 2, 3, Probe.TURN, 9, 0, 1);
        p.run(Probe.MAY_NOT, 5);
        p.run(Probe.NOTHING, 9);
        p.run(Probe.NOTHING, 9);
        p.count(9, 8);
        // An order that comes anew where another AGAIN was cut away has done nothing yet.
        p.cut(true, 1);
        p.tune(Probe.AGAIN, 0, 1, 1);
        p.run(0, 4);
        p.cut(true, 0);
        p.tune(Probe.AGAIN, 0, 1, 20);
        p.run(Probe.MAY_NOT, 20);
        p.run(Probe.MAY_NOT, 20);
        p.run(0, 21);
    }

    private static void againSinceItWentOnBehind() {
        Probe p = new Probe("or it last went on behind itself");
        p.tune(Probe.HANG, 0, 2, 0, Probe.AGAIN, 0, 1, 2, Probe.AGAIN, 0, 2, 3);
        p.run(0, 300);
        p.count(3 * 4, 4);
        p.count(3 * 4 * 2 + 4, 8);
        Probe q = new Probe("leapt over | or it last went on behind itself");
        // The TURN is refused by turns; where it is not, the WHEN leaps the first AGAIN, which keeps what it did.
        q.make(Probe.DONE, 5, 4, 1);
        q.tune(Probe.HANG, 0, 2, 0, Probe.SWAP, 5, 6, 0, Probe.TURN, 5, 0, 0, Probe.WHEN, 1, 0, 1,
                Probe.AGAIN, 0, 4, 1, Probe.AGAIN, 0, 5, 1);
        q.run(0, 300);
        q.count(3, 4);
    }

    private static void againEachForItself() {
        Probe p = new Probe("two of them | as long as that AGAIN has done so less than c times");
        p.tune(Probe.HANG, 0, 2, 0, Probe.AGAIN, 0, 1, 1, Probe.HANG, 0, 3, 0, Probe.AGAIN, 0, 1, 2);
        p.run(0, 300);
        int[] sorts = {1, 1, 2, 2, 2};
        for (int i = 0; i < sorts.length; i++) {
            p.sort(sorts[i], i + 1);
        }
        p.count(5, 4);
    }

    private static void endsBehindTheLast() {
        Probe p = new Probe("The run ends behind the last ORDER");
        p.run(0, 0);
        p.tune(Probe.MARK, 0, 0, 1);
        p.run(0, 1);
        p.tune(Probe.AGAIN, 0, 1, 0);
        p.run(0, 2);
        p.cut(true, 0);
        // The WHEN that meets it is the last one.
        p.tune(Probe.TURN, 9, 0, 1, Probe.WHEN, 1, 0, 0);
        p.run(0, 1);
        p.count(Probe.NONE, 9);
    }

    private static void endsWhenOneLeapsBeyond() {
        Probe p = new Probe("(also when one leaps beyond).");
        p.tune(Probe.WHEN, 0, 0, 0);
        p.run(0, 1);
        p.cut(true, 0);
        p.tune(Probe.WHEN, 0, 0, 1);
        p.run(0, 1);
        p.cut(true, 0);
        p.tune(Probe.WHEN, 3, 0, 60, Probe.TURN, 9, 0, 1);
        p.run(0, 1);
        p.count(1, 8);
        p.count(Probe.NONE, 9);
        p.cut(true, 0);
        for (int i = 0; i < 59; i++) {
            p.order(i, Probe.MARK, 0, 0, i);
        }
        p.order(59, Probe.WHEN, 0, 0, 60);
        p.run(0, 60);
        p.count(60, 8);
    }
}
