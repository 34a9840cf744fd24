/** Promise 2: order(), with the edges of every number that is told for every code. */
public final class OrderTest {
    private static final int[] ONE_SPINDLE = {
        Probe.MARK, Probe.TURN, Probe.OPEN, Probe.SHUT, Probe.PIN
    };
    private static final int[] TWO_SPINDLES = {
        Probe.SPLICE, Probe.TWIN, Probe.SHARE, Probe.SWAP, Probe.SEAT, Probe.LIFT
    };

    public static void main(String[] args) {
        numbersFromNothingOn();
        atMostSixty();
        noSuchCode();
        for (int code : ONE_SPINDLE) {
            edges(code, 0, 9, Probe.MIN, Probe.MAX, Probe.MIN, Probe.MAX);
        }
        for (int code : TWO_SPINDLES) {
            edges(code, 0, 9, 0, 9, Probe.MIN, Probe.MAX);
        }
        edges(Probe.MAKE, 0, 9, 0, 11, Probe.MIN, Probe.MAX);
        edges(Probe.HANG, 0, 9, 0, 5, Probe.MIN, Probe.MAX);
        edges(Probe.WHEN, 0, 5, Probe.MIN, Probe.MAX, 0, 60);
        edges(Probe.AGAIN, Probe.MIN, Probe.MAX, 1, 60, 0, 20);
        Probe.end();
    }

    private static void numbersFromNothingOn() {
        Probe p = new Probe("numbers");
        p.order(0, Probe.MARK, 0, 0, 5);
        p.order(Probe.NONE, Probe.MARK, 10, 0, 5);
        p.count(1, 0);
        p.order(1, Probe.MAKE, 1, 4, 3);
        p.order(2, Probe.WHEN, 0, 0, 0);
        p.count(3, 0);
        p.look(0, 0, 2);
        p.look(Probe.NONE, 1, 0);
        p.count(0, 1);
    }

    private static void atMostSixty() {
        Probe p = new Probe("sixty");
        for (int i = 0; i < 60; i++) {
            p.order(i, Probe.MARK, 0, 0, i);
        }
        p.order(Probe.NONE, Probe.MARK, 0, 0, 60);
        p.count(60, 0);
        p.run(0, 60);
        p.look(59, 0, 2);
        p.cut(true, 59);
        p.order(59, Probe.MARK, 0, 0, 77);
        p.order(Probe.NONE, Probe.MARK, 0, 0, 60);
        p.run(0, 60);
        p.look(77, 0, 2);
    }

    private static void noSuchCode() {
        Probe p = new Probe("codes");
        p.order(Probe.NONE, -1, 0, 1, 0);
        p.order(Probe.NONE, 15, 0, 1, 0);
        p.order(Probe.NONE, Probe.MIN, 0, 1, 0);
        p.order(Probe.NONE, Probe.MAX, 0, 1, 0);
        p.count(0, 0);
    }

    private static void edges(int code, int leastA, int mostA, int leastB, int mostB, int leastC, int mostC) {
        Probe p = new Probe("edges of " + code);
        int number = 0;
        for (int a : new int[] {leastA, mostA}) {
            for (int b : new int[] {leastB, mostB}) {
                for (int c : new int[] {leastC, mostC}) {
                    p.order(number++, code, a, b, c);
                }
            }
        }
        beyond(p, leastA, mostA, code, 0, leastB, leastC);
        beyond(p, leastB, mostB, code, 1, leastA, leastC);
        beyond(p, leastC, mostC, code, 2, leastA, leastB);
        p.count(number, 0);
    }

    /** The number at this place goes beyond its edges, the others stay. */
    private static void beyond(Probe p, int least, int most, int code, int place, int other, int another) {
        for (int wrong : new int[] {least - 1, most + 1, Probe.MIN, Probe.MAX}) {
            if (least != Probe.MIN && (wrong < least || wrong > most)) {
                int a = place == 0 ? wrong : other;
                int b = place == 1 ? wrong : place == 0 ? other : another;
                int c = place == 2 ? wrong : another;
                p.order(Probe.NONE, code, a, b, c);
            }
        }
    }
}
