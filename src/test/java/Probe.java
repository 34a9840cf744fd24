/** One new workshop under test: each call is made with the answer that is due to it. */
final class Probe {
    static final int MARK = 0;
    static final int SPLICE = 1;
    static final int TURN = 2;
    static final int OPEN = 3;
    static final int SHUT = 4;
    static final int MAKE = 5;
    static final int TWIN = 6;
    static final int SHARE = 7;
    static final int SWAP = 8;
    static final int HANG = 9;
    static final int PIN = 10;
    static final int SEAT = 11;
    static final int LIFT = 12;
    static final int WHEN = 13;
    static final int AGAIN = 14;

    static final int DONE = 0;
    static final int NOTHING = 1;
    static final int STORE = 2;
    static final int PLACE = 3;
    static final int ROOM = 4;
    static final int SIZE = 5;
    static final int WORN_OUT = 6;
    static final int MAY_NOT = 7;
    static final int NONE = -1;

    static final int MIN = Integer.MIN_VALUE;
    static final int MAX = Integer.MAX_VALUE;

    private static int checks = 0;
    private static int wrong = 0;

    /** What an object answers beyond so many calls is free, so no test may look at it. */
    private static final int MOST_CALLS = 512;

    private final PinBarrels it = new PinBarrels();
    private final String name;
    private int calls = 0;

    Probe(String name) {
        this.name = name;
    }

    static void end() {
        System.out.println(checks + " answers looked at, " + wrong + " not as due");
        if (wrong != 0 || checks == 0) {
            System.exit(1);
        }
    }

    private void due(String call, long got, long want) {
        called(1);
        checks++;
        if (got != want) {
            wrong++;
            System.out.println(name + ": " + call + " answered " + got + ", due is " + want);
        }
    }

    private void called(int times) {
        calls += times;
        if (calls > MOST_CALLS) {
            throw new IllegalStateException(name + ": the test makes more calls than an object is used for");
        }
    }

    private static String text(String method, int... arguments) {
        StringBuilder text = new StringBuilder(method).append('(');
        for (int i = 0; i < arguments.length; i++) {
            text.append(i == 0 ? "" : ", ").append(arguments[i]);
        }
        return text.append(')').toString();
    }

    void order(int want, int code, int a, int b, int c) {
        due(text("order", code, a, b, c), it.order(code, a, b, c), want);
    }

    /** Puts orders of four numbers each behind the tune, and minds that they come. */
    void tune(int... orders) {
        int number = counted(0);
        for (int i = 0; i + 3 < orders.length; i += 4) {
            order(number++, orders[i], orders[i + 1], orders[i + 2], orders[i + 3]);
        }
    }

    void cut(boolean want, int n) {
        due(text("cut", n), it.cut(n) ? 1 : 0, want ? 1 : 0);
    }

    void act(int want, int code, int a, int b, int c) {
        due(text("act", code, a, b, c), it.act(code, a, b, c), want);
    }

    void run(int want, int most) {
        due(text("run", most), it.run(most), want);
    }

    void back(boolean want) {
        due("back()", it.back() ? 1 : 0, want ? 1 : 0);
    }

    void look(int want, int k, int what) {
        due(text("look", k, what), it.look(k, what), want);
    }

    void cell(long want, int k, int i) {
        due(text("cell", k, i), it.cell(k, i), want);
    }

    void sort(int want, int figure) {
        due(text("sort", figure), it.sort(figure), want);
    }

    void count(int want, int what) {
        due(text("count", what), it.count(what), want);
    }

    /** What count() answers, where a test needs it to go on. */
    int counted(int what) {
        called(1);
        return it.count(what);
    }

    /** What cell() answers, where a test needs it to go on. */
    long cellNow(int k, int i) {
        called(1);
        return it.cell(k, i);
    }

    void mark(int spindle, int mark) {
        act(DONE, MARK, spindle, 0, mark);
    }

    void splice(int want, int a, int b, int c) {
        act(want, SPLICE, a, b, c);
    }

    void turn(int want, int a, int c) {
        act(want, TURN, a, 0, c);
    }

    void open(int want, int a, int c) {
        act(want, OPEN, a, 0, c);
    }

    void shut(int want, int a, int c) {
        act(want, SHUT, a, 0, c);
    }

    void make(int want, int a, int kind, int length) {
        act(want, MAKE, a, kind, length);
    }

    void twin(int want, int a, int b) {
        act(want, TWIN, a, b, 0);
    }

    void share(int a, int b) {
        act(DONE, SHARE, a, b, 0);
    }

    void swap(int a, int b) {
        act(DONE, SWAP, a, b, 0);
    }

    void hang(int want, int a, int what) {
        act(want, HANG, a, what, 0);
    }

    void pin(int want, int a, int c) {
        act(want, PIN, a, 0, c);
    }

    void seat(int want, int a, int b) {
        act(want, SEAT, a, b, 0);
    }

    void lift(int want, int a, int b) {
        act(want, LIFT, a, b, 0);
    }

    /** A new row of numbers on the spindle, whose mark is 0 behind it. */
    void numbers(int spindle, int kind, int... cells) {
        act(DONE, MAKE, spindle, kind, cells.length);
        for (int i = 0; i < cells.length; i++) {
            mark(spindle, i);
            act(DONE, PIN, spindle, 0, cells[i]);
        }
        mark(spindle, 0);
    }

    /** A new row of figures of these sorts (0: none); it uses spindle 9 and leaves nothing there. */
    void figures(int spindle, int kind, int... sorts) {
        act(DONE, MAKE, spindle, kind, sorts.length);
        for (int i = 0; i < sorts.length; i++) {
            if (sorts[i] != 0) {
                act(DONE, HANG, 9, sorts[i] + 1, 0);
                mark(spindle, i);
                act(DONE, SEAT, spindle, 9, 0);
            }
        }
        mark(spindle, 0);
        act(DONE, HANG, 9, 0, 0);
    }

    /** The row on the spindle has these cells, and no more. */
    void row(int spindle, long... cells) {
        look(cells.length, spindle, 1);
        for (int i = 0; i < cells.length; i++) {
            cell(cells[i], spindle, i);
        }
        cell(0, spindle, cells.length);
    }

    /** Begins so many orders that change nothing but mark 9; the tune is empty behind it. */
    void wear(int orders) {
        cut(true, 0);
        tune(MARK, 9, 0, 0, MARK, 9, 0, 0, MARK, 9, 0, 0, MARK, 9, 0, 0, AGAIN, 0, 4, 20,
                AGAIN, 0, 5, 20);
        int begun = counted(1);
        int left = orders;
        while (left > 0) {
            int part = Math.min(left, 300);
            begun += part;
            // Behind the last one of a life, WORN OUT goes ahead of what may not begin.
            run(begun >= 4000 ? WORN_OUT : MAY_NOT, part);
            left -= part;
        }
        cut(true, 0);
    }

    private int looked(int k, int what) {
        called(1);
        return it.look(k, what);
    }

    /** All that can be seen, but for orders begun and refusals, which a refused order counts up. */
    String state() {
        StringBuilder state = new StringBuilder();
        for (int k = 0; k < 10; k++) {
            int held = looked(k, 0);
            int measure = looked(k, 1);
            state.append(k).append(": ").append(held).append(' ').append(measure).append(' ');
            state.append(looked(k, 2)).append(' ').append(looked(k, 3));
            boolean isRow = held >= 0 && held < 12;
            for (int i = 0; isRow && i < measure; i++) {
                state.append(i == 0 ? " of " : ", ").append(cellNow(k, i));
            }
            state.append("; ");
        }
        for (int what : new int[] {0, 2, 3, 4, 5, 7, 8, 9}) {
            state.append(' ').append(counted(what));
        }
        return state.toString();
    }

    /** The workshop is as it was when this state was taken. */
    void stillAs(String state) {
        String now = state();
        checks++;
        if (!now.equals(state)) {
            wrong++;
            System.out.println(name + ": it was " + state + " and is " + now);
        }
    }
}
