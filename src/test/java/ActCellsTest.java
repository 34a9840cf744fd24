/** Promise 4: act() for the orders of one cell: PIN, SEAT, LIFT. */
public final class ActCellsTest {
    private static final int[] NUMBERS = {
        0, 1, -1, 2, 127, 128, -128, -129, 255, 256, 32767, 32768, -32768, -32769, 65535, 65536, 65537, -65536,
        16777215, 16777216, 16777217, 16777218, 16777219, 16777221, -16777217, -16777219, 33554431, 33554433,
        33554434, 33554438, 33554435, 1073741887, 1073741888, 1073741889, 1073741952, 1073742016, 2147483583,
        2147483584, 2147483585, 2147483646, Integer.MAX_VALUE, Integer.MIN_VALUE, Integer.MIN_VALUE + 1,
        -2147483583, -2147483584, -2147483585, 123456789, -987654321
    };

    public static void main(String[] args) {
        for (int kind = 0; kind < 8; kind++) {
            cutToKind(kind);
        }
        manyFloats();
        pinRefused();
        seat();
        seatRefused();
        lift();
        liftRefused();
        Probe.end();
    }

    private static long cut(int kind, int number) {
        switch (kind) {
            case 0:
                return number == 0 ? 0 : 1;
            case 1:
                return (byte) number;
            case 2:
                return (char) number;
            case 3:
                return (short) number;
            case 6:
                return Float.floatToRawIntBits(number);
            case 7:
                return Double.doubleToRawLongBits(number);
            default:
                return number;
        }
    }

    private static void cutToKind(int kind) {
        Probe p = new Probe("pin of kind " + kind);
        p.act(Probe.DONE, Probe.MAKE, 0, kind, 3);
        p.mark(0, 1);
        for (int number : NUMBERS) {
            p.act(Probe.DONE, Probe.PIN, 0, 0, number);
            p.cell(cut(kind, number), 0, 1);
        }
        p.cell(0, 0, 0);
        p.cell(0, 0, 2);
    }

    private static void manyFloats() {
        int number = 1;
        for (int object = 0; object < 100; object++) {
            Probe p = new Probe("many floats");
            p.act(Probe.DONE, Probe.MAKE, 0, 6, 1);
            p.act(Probe.DONE, Probe.MAKE, 1, 7, 1);
            for (int i = 0; i < 100; i++) {
                number = number * 1664525 + 1013904223;
                int some = number >> (i % 32);
                p.act(Probe.DONE, Probe.PIN, 0, 0, some);
                p.cell(cut(6, some), 0, 0);
                p.act(Probe.DONE, Probe.PIN, 1, 0, some);
                p.cell(cut(7, some), 1, 0);
            }
        }
    }

    private static void pinRefused() {
        Probe p = new Probe("pin refused");
        p.mark(0, -1);
        p.act(Probe.NOTHING, Probe.PIN, 0, 0, 1);
        p.act(Probe.DONE, Probe.HANG, 0, 1, 0);
        p.act(Probe.STORE, Probe.PIN, 0, 0, 1);
        p.act(Probe.DONE, Probe.HANG, 0, 2, 0);
        p.act(Probe.STORE, Probe.PIN, 0, 0, 1);
        for (int kind = 8; kind < 12; kind++) {
            p.act(Probe.DONE, Probe.MAKE, 0, kind, 2);
            p.act(Probe.STORE, Probe.PIN, 0, 0, 1);
            p.mark(0, 0);
            p.act(Probe.STORE, Probe.PIN, 0, 0, 0);
        }
        p.act(Probe.DONE, Probe.MAKE, 0, 4, 2);
        for (int mark : new int[] {-1, 2, 3, Probe.MIN, Probe.MAX}) {
            p.mark(0, mark);
            p.act(Probe.PLACE, Probe.PIN, 0, 0, 1);
        }
        p.row(0, 0, 0);
        p.mark(0, 0);
        p.act(Probe.DONE, Probe.MAKE, 0, 4, 0);
        p.act(Probe.PLACE, Probe.PIN, 0, 0, 1);
        p.count(0, 5);
    }

    private static void seat() {
        for (int kind = 8; kind < 12; kind++) {
            Probe p = new Probe("seat in kind " + kind);
            p.act(Probe.DONE, Probe.MAKE, 0, kind, 6);
            for (int sort = 1; sort <= 4; sort++) {
                p.act(Probe.DONE, Probe.HANG, 1, sort + 1, 0);
                p.mark(0, sort);
                boolean fits = kind == 8 || kind == 9 && (sort == 2 || sort == 3) || kind == 10 && sort == 3
                        || kind == 11 && sort == 4;
                p.act(fits ? Probe.DONE : Probe.STORE, Probe.SEAT, 0, 1, 0);
                p.cell(fits ? sort : 0, 0, sort);
                p.look(12 + sort, 1, 0);
            }
            p.mark(0, 3);
            int kept = p.counted(5);
            p.act(Probe.DONE, Probe.SEAT, 0, 2, 0);
            p.cell(0, 0, 3);
            p.count(kind == 11 ? kept : kept + 1, 5);
        }
    }

    private static void seatRefused() {
        Probe p = new Probe("seat refused");
        p.mark(0, -1);
        p.act(Probe.NOTHING, Probe.SEAT, 0, 1, 0);
        p.act(Probe.DONE, Probe.HANG, 1, 1, 0);
        p.act(Probe.NOTHING, Probe.SEAT, 0, 1, 0);
        p.act(Probe.STORE, Probe.SEAT, 1, 0, 0);
        p.act(Probe.DONE, Probe.HANG, 0, 2, 0);
        p.act(Probe.STORE, Probe.SEAT, 0, 2, 0);
        p.act(Probe.DONE, Probe.MAKE, 0, 4, 2);
        p.act(Probe.STORE, Probe.SEAT, 0, 2, 0);
        p.act(Probe.DONE, Probe.MAKE, 0, 11, 2);
        p.act(Probe.STORE, Probe.SEAT, 0, 1, 0);
        p.act(Probe.STORE, Probe.SEAT, 0, 0, 0);
        p.act(Probe.DONE, Probe.MAKE, 1, 4, 2);
        p.act(Probe.STORE, Probe.SEAT, 0, 1, 0);
        p.act(Probe.DONE, Probe.HANG, 1, 2, 0);
        for (int mark : new int[] {-1, 2, Probe.MIN, Probe.MAX}) {
            p.mark(0, mark);
            p.act(Probe.PLACE, Probe.SEAT, 0, 1, 0);
            p.act(Probe.PLACE, Probe.SEAT, 0, 2, 0);
        }
        p.mark(0, 1);
        p.act(Probe.STORE, Probe.SEAT, 0, 1, 0);
        p.act(Probe.DONE, Probe.SEAT, 0, 2, 0);
        p.row(0, 0, 0);
        p.count(0, 5);
    }

    private static void lift() {
        Probe p = new Probe("lift");
        p.figures(0, 8, 1, 0, 4);
        p.mark(0, 2);
        p.act(Probe.DONE, Probe.LIFT, 0, 1, 0);
        p.look(16, 1, 0);
        p.look(2, 1, 1);
        p.row(0, 1, 0, 2);
        p.act(Probe.DONE, Probe.LIFT, 0, 2, 0);
        p.look(1, 2, 3);
        p.mark(0, 1);
        p.act(Probe.DONE, Probe.LIFT, 0, 1, 0);
        p.look(Probe.NONE, 1, 0);
        p.mark(0, 0);
        int kept = p.counted(5);
        p.act(Probe.DONE, Probe.LIFT, 0, 0, 0);
        p.look(13, 0, 0);
        p.look(1, 0, 1);
        p.count(kept, 5);
        p.count(2, 4);
    }

    private static void liftRefused() {
        Probe p = new Probe("lift refused");
        p.mark(0, -1);
        p.act(Probe.NOTHING, Probe.LIFT, 0, 1, 0);
        p.act(Probe.DONE, Probe.HANG, 0, 1, 0);
        p.act(Probe.STORE, Probe.LIFT, 0, 1, 0);
        p.act(Probe.DONE, Probe.HANG, 0, 2, 0);
        p.act(Probe.STORE, Probe.LIFT, 0, 1, 0);
        p.act(Probe.DONE, Probe.MAKE, 0, 7, 2);
        p.act(Probe.STORE, Probe.LIFT, 0, 1, 0);
        p.act(Probe.DONE, Probe.MAKE, 0, 8, 2);
        p.act(Probe.DONE, Probe.HANG, 1, 1, 0);
        for (int mark : new int[] {-1, 2, Probe.MIN, Probe.MAX}) {
            p.mark(0, mark);
            p.act(Probe.PLACE, Probe.LIFT, 0, 1, 0);
        }
        p.look(12, 1, 0);
    }
}
