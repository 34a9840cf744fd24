/**
 * A workshop for the barrels of barrel organs: ten spindles, rows of pins and of figures, a tune of
 * orders, and a book that takes back what orders changed.
 */
public final class PinBarrels {
    public static final int NONE = -1;

    private static final int SPINDLES = 10;
    private static final int MOST_LENGTH = 64;
    private static final int MOST_ROWS = 120;
    private static final int MOST_CELLS = 3000;
    private static final int MOST_FIGURES = 400;
    private static final int MOST_PAGES = 20;
    private static final int MOST_IN_TUNE = 60;
    private static final int MOST_IN_RUN = 300;
    private static final int MOST_IN_LIFE = 4000;
    private static final int MOST_LEAPT = 60;
    private static final int MOST_TIMES_AGAIN = 20;

    private static final int TRUTHS = 0;
    private static final int BYTES = 1;
    private static final int SIGNS = 2;
    private static final int SHORTS = 3;
    private static final int FLOATS = 6;
    private static final int DOUBLES = 7;
    private static final int ANY_FIGURES = 8;
    private static final int DANCERS = 9;
    private static final int PRINCES = 10;
    private static final int PIPERS = 11;
    private static final int LAST_KIND = PIPERS;
    private static final int CRANK = 12;

    private static final int NO_FIGURE = 0;
    private static final int DANCER = 2;
    private static final int PRINCE = 3;
    private static final int PIPER = 4;

    private static final int DONE = 0;
    private static final int NOTHING = 1;
    private static final int STORE = 2;
    private static final int PLACE = 3;
    private static final int ROOM = 4;
    private static final int SIZE = 5;
    private static final int WORN_OUT = 6;
    private static final int MAY_NOT_BEGIN = 7;

    private static final int ORDER_MARK = 0;
    private static final int ORDER_SPLICE = 1;
    private static final int ORDER_TURN = 2;
    private static final int ORDER_OPEN = 3;
    private static final int ORDER_SHUT = 4;
    private static final int ORDER_MAKE = 5;
    private static final int ORDER_TWIN = 6;
    private static final int ORDER_SHARE = 7;
    private static final int ORDER_SWAP = 8;
    private static final int ORDER_HANG = 9;
    private static final int ORDER_PIN = 10;
    private static final int ORDER_SEAT = 11;
    private static final int ORDER_LIFT = 12;
    private static final int ORDER_WHEN = 13;
    private static final int ORDER_AGAIN = 14;

    private static final int HANG_NOTHING = 0;
    private static final int HANG_CRANK = 1;
    private static final int LAST_HANG = 5;

    private final Bench bench;
    private final Tune tune;
    private final Book book;
    private final long[] ahead;
    private int begun;
    private int refusals;
    private int metRefusals;
    private int begunInRun;
    private int enderOfRun;

    public PinBarrels() {
        bench = new Bench();
        tune = new Tune();
        book = new Book();
        ahead = new long[MOST_LENGTH];
        enderOfRun = NONE;
    }

    public int order(int code, int a, int b, int c) {
        if (!isAsTold(code, a, b, c) || tune.length >= MOST_IN_TUNE) {
            return NONE;
        }
        return tune.append(code, a, b, c);
    }

    public boolean cut(int n) {
        if (n < 0 || n > tune.length) {
            return false;
        }
        tune.length = n;
        return true;
    }

    public int act(int code, int a, int b, int c) {
        if (code > ORDER_LIFT || !isAsTold(code, a, b, c)) {
            return NONE;
        }
        if (begun >= MOST_IN_LIFE) {
            return WORN_OUT;
        }
        return begin(code, a, b, c);
    }

    public int run(int most) {
        if (most < 0 || most > MOST_IN_RUN) {
            return NONE;
        }
        tune.forgetAgains();
        begunInRun = 0;
        enderOfRun = NONE;
        int at = 0;
        // One pass more than may begin, for the order that may not.
        for (int pass = 0; pass <= most && at < tune.length; pass++) {
            if (begun >= MOST_IN_LIFE) {
                enderOfRun = at;
                return WORN_OUT;
            }
            if (pass == most) {
                return MAY_NOT_BEGIN;
            }
            begunInRun++;
            int refusal = begin(tune.codes[at], tune.as[at], tune.bs[at], tune.cs[at]);
            int next = refusal == DONE ? tune.following(at) : tune.meeting(at, refusal);
            if (next == NONE) {
                enderOfRun = at;
                return refusal;
            }
            if (refusal != DONE) {
                metRefusals++;
            }
            at = next;
        }
        return DONE;
    }

    public boolean back() {
        return book.takeBack();
    }

    public int look(int k, int what) {
        if (!isSpindle(k)) {
            return NONE;
        }
        Thing thing = bench.held[k];
        switch (what) {
            case 0:
                return thing == null ? NONE : thing.appearance();
            case 1:
                return thing == null ? NONE : thing.measure();
            case 2:
                return bench.marks[k];
            case 3:
                return bench.leastHolder(thing);
            default:
                return NONE;
        }
    }

    public long cell(int k, int i) {
        if (isSpindle(k) && bench.held[k] instanceof Row row && row.hasPlace(i)) {
            return row.cells[i];
        }
        return 0;
    }

    public int sort(int figure) {
        Figure found = bench.stock.figureOf(figure);
        return found == null ? NONE : found.sort;
    }

    public int count(int what) {
        switch (what) {
            case 0:
                return tune.length;
            case 1:
                return begun;
            case 2:
                return bench.stock.rowsMade;
            case 3:
                return bench.stock.cellsMade;
            case 4:
                return bench.stock.figuresMade;
            case 5:
                return book.kept;
            case 6:
                return refusals;
            case 7:
                return metRefusals;
            case 8:
                return begunInRun;
            case 9:
                return enderOfRun;
            default:
                return NONE;
        }
    }

    private static boolean isWithin(int number, int least, int most) {
        return number >= least && number <= most;
    }

    private static boolean isSpindle(int number) {
        return isWithin(number, 0, SPINDLES - 1);
    }

    private static boolean isAsTold(int code, int a, int b, int c) {
        switch (code) {
            case ORDER_MARK:
            case ORDER_TURN:
            case ORDER_OPEN:
            case ORDER_SHUT:
            case ORDER_PIN:
                return isSpindle(a);
            case ORDER_SPLICE:
            case ORDER_TWIN:
            case ORDER_SHARE:
            case ORDER_SWAP:
            case ORDER_SEAT:
            case ORDER_LIFT:
                return isSpindle(a) && isSpindle(b);
            case ORDER_MAKE:
                return isSpindle(a) && isWithin(b, 0, LAST_KIND);
            case ORDER_HANG:
                return isSpindle(a) && isWithin(b, 0, LAST_HANG);
            case ORDER_WHEN:
                return isWithin(a, 0, SIZE) && isWithin(c, 0, MOST_LEAPT);
            case ORDER_AGAIN:
                return isWithin(b, 1, MOST_IN_TUNE) && isWithin(c, 0, MOST_TIMES_AGAIN);
            default:
                return false;
        }
    }

    private int begin(int code, int a, int b, int c) {
        begun++;
        Row row = rowAtRisk(code, a, b);
        if (row != null) {
            row.copyTo(ahead);
        }
        int refusal = bench.perform(code, a, b, c);
        // A refused order is looked at too: a splice may have brought some figures first.
        if (row != null && row.differsFrom(ahead)) {
            book.write(row, ahead);
        }
        if (refusal != DONE) {
            refusals++;
        }
        return refusal;
    }

    /** No order changes cells of more than one row that was there ahead of it. */
    private Row rowAtRisk(int code, int a, int b) {
        int spindle = code == ORDER_SPLICE ? b : a;
        // WHEN and AGAIN bear numbers here that are no spindles.
        if (code <= ORDER_LIFT && isSpindle(spindle) && bench.held[spindle] instanceof Row row) {
            return row;
        }
        return null;
    }

    /** What a spindle can hold; two spindles hold the same thing if they hold the same object. */
    private abstract static class Thing {
        abstract int appearance();

        abstract int measure();
    }

    private static final class Crank extends Thing {
        int appearance() {
            return CRANK;
        }

        int measure() {
            return NONE;
        }
    }

    private static final class Figure extends Thing {
        private final int sort;
        private final int number;

        Figure(int sort, int number) {
            this.sort = sort;
            this.number = number;
        }

        int appearance() {
            return CRANK + sort;
        }

        int measure() {
            return number;
        }
    }

    /**
     * Cells of every kind are longs, so that one way of moving and comparing serves all: floats and
     * doubles are there by their bits, figures by their numbers.
     */
    private static final class Row extends Thing {
        private final int kind;
        private final long[] cells;

        Row(int kind, int length) {
            this.kind = kind;
            this.cells = new long[length];
        }

        int appearance() {
            return kind;
        }

        int measure() {
            return cells.length;
        }

        boolean isOfFigures() {
            return kind >= ANY_FIGURES;
        }

        boolean isAlike(Row other) {
            return kind == other.kind || isOfFigures() && other.isOfFigures();
        }

        boolean hasPlace(int place) {
            return place >= 0 && place < cells.length;
        }

        boolean hasPlaces(int from, int places) {
            // As longs: a mark and a number of places can be too large to be added as ints.
            return from >= 0 && places >= 0 && (long) from + (long) places <= cells.length;
        }

        boolean canHave(int sort) {
            switch (kind) {
                case DANCERS:
                    return sort == NO_FIGURE || sort == DANCER || sort == PRINCE;
                case PRINCES:
                    return sort == NO_FIGURE || sort == PRINCE;
                case PIPERS:
                    return sort == NO_FIGURE || sort == PIPER;
                default:
                    return true;
            }
        }

        void turn(int places, long[] between) {
            int length = cells.length;
            if (length == 0) {
                return;
            }
            int shift = Math.floorMod(places, length);
            copyTo(between);
            for (int i = 0; i < length; i++) {
                cells[i] = between[(i + shift) % length];
            }
        }

        void open(int from, int places) {
            System.arraycopy(cells, from, cells, from + places, cells.length - from - places);
            empty(from, from + places);
        }

        void shut(int from, int places) {
            System.arraycopy(cells, from + places, cells, from, cells.length - from - places);
            empty(cells.length - places, cells.length);
        }

        private void empty(int from, int end) {
            for (int i = from; i < end; i++) {
                cells[i] = 0;
            }
        }

        void copyTo(long[] page) {
            System.arraycopy(cells, 0, page, 0, cells.length);
        }

        boolean differsFrom(long[] page) {
            for (int i = 0; i < cells.length; i++) {
                if (cells[i] != page[i]) {
                    return true;
                }
            }
            return false;
        }
    }

    /** All that was made: it counts against the limits even when no spindle holds it any more. */
    private static final class Stock {
        private final Figure[] figures = new Figure[MOST_FIGURES];
        private int figuresMade;
        private int rowsMade;
        private int cellsMade;

        boolean hasRoomForRow(int length) {
            return rowsMade < MOST_ROWS && length <= MOST_LENGTH && cellsMade + length <= MOST_CELLS;
        }

        boolean hasRoomForFigure() {
            return figuresMade < MOST_FIGURES;
        }

        Row makeRow(int kind, int length) {
            rowsMade++;
            cellsMade += length;
            return new Row(kind, length);
        }

        Figure makeFigure(int sort) {
            Figure figure = new Figure(sort, figuresMade + 1);
            figures[figuresMade] = figure;
            figuresMade++;
            return figure;
        }

        Figure figureOf(long number) {
            if (number < 1 || number > figuresMade) {
                return null;
            }
            return figures[(int) number - 1];
        }

        int sortOf(long number) {
            Figure figure = figureOf(number);
            return figure == null ? NO_FIGURE : figure.sort;
        }
    }

    /** The spindles, and the orders that are done on them. Spindle numbers are tested by the callers. */
    private static final class Bench {
        private final Thing[] held = new Thing[SPINDLES];
        private final int[] marks = new int[SPINDLES];
        private final long[] between = new long[MOST_LENGTH];
        private final Stock stock = new Stock();

        int leastHolder(Thing thing) {
            if (thing == null) {
                return NONE;
            }
            for (int k = 0; k < SPINDLES; k++) {
                if (held[k] == thing) {
                    return k;
                }
            }
            return NONE;
        }

        int perform(int code, int a, int b, int c) {
            switch (code) {
                case ORDER_MARK:
                    marks[a] = c;
                    return DONE;
                case ORDER_SPLICE:
                    return splice(a, b, c);
                case ORDER_TURN:
                    return turn(a, c);
                case ORDER_OPEN:
                    return open(a, c);
                case ORDER_SHUT:
                    return shut(a, c);
                case ORDER_MAKE:
                    return make(a, b, c);
                case ORDER_TWIN:
                    return twin(a, b);
                case ORDER_SHARE:
                    held[a] = held[b];
                    return DONE;
                case ORDER_SWAP:
                    return swap(a, b);
                case ORDER_HANG:
                    return hang(a, b);
                case ORDER_PIN:
                    return pin(a, c);
                case ORDER_SEAT:
                    return seat(a, b);
                case ORDER_LIFT:
                    return lift(a, b);
                default:
                    // WHEN and AGAIN do nothing here: where a run goes on is the tune's affair.
                    return DONE;
            }
        }

        private int splice(int a, int b, int c) {
            if (held[a] == null || held[b] == null) {
                return NOTHING;
            }
            if (!(held[a] instanceof Row from) || !(held[b] instanceof Row to) || !from.isAlike(to)) {
                return STORE;
            }
            if (!from.hasPlaces(marks[a], c) || !to.hasPlaces(marks[b], c)) {
                return PLACE;
            }
            int coming = howManyFit(from, marks[a], to, c);
            System.arraycopy(from.cells, marks[a], to.cells, marks[b], coming);
            return coming == c ? DONE : STORE;
        }

        private int howManyFit(Row from, int start, Row to, int places) {
            if (!to.isOfFigures()) {
                return places;
            }
            for (int i = 0; i < places; i++) {
                if (!to.canHave(stock.sortOf(from.cells[start + i]))) {
                    return i;
                }
            }
            return places;
        }

        private int turn(int a, int c) {
            if (held[a] == null) {
                return NOTHING;
            }
            if (!(held[a] instanceof Row row)) {
                return STORE;
            }
            row.turn(c, between);
            return DONE;
        }

        private int open(int a, int c) {
            int refusal = refusalOfPlaces(a, c);
            if (refusal == DONE && held[a] instanceof Row row) {
                row.open(marks[a], c);
            }
            return refusal;
        }

        private int shut(int a, int c) {
            int refusal = refusalOfPlaces(a, c);
            if (refusal == DONE && held[a] instanceof Row row) {
                row.shut(marks[a], c);
            }
            return refusal;
        }

        private int refusalOfPlaces(int a, int places) {
            if (held[a] == null) {
                return NOTHING;
            }
            if (!(held[a] instanceof Row row)) {
                return STORE;
            }
            return row.hasPlaces(marks[a], places) ? DONE : PLACE;
        }

        private int make(int a, int kind, int length) {
            if (length < 0) {
                return SIZE;
            }
            if (!stock.hasRoomForRow(length)) {
                return ROOM;
            }
            held[a] = stock.makeRow(kind, length);
            return DONE;
        }

        private int twin(int a, int b) {
            if (held[b] == null) {
                return NOTHING;
            }
            if (!(held[b] instanceof Row row)) {
                return STORE;
            }
            if (!stock.hasRoomForRow(row.cells.length)) {
                return ROOM;
            }
            Row twin = stock.makeRow(row.kind, row.cells.length);
            row.copyTo(twin.cells);
            held[a] = twin;
            return DONE;
        }

        private int swap(int a, int b) {
            Thing other = held[a];
            held[a] = held[b];
            held[b] = other;
            return DONE;
        }

        private int hang(int a, int what) {
            if (what == HANG_NOTHING) {
                held[a] = null;
                return DONE;
            }
            if (what == HANG_CRANK) {
                held[a] = new Crank();
                return DONE;
            }
            if (!stock.hasRoomForFigure()) {
                return ROOM;
            }
            held[a] = stock.makeFigure(what - HANG_CRANK);
            return DONE;
        }

        private int pin(int a, int c) {
            if (held[a] == null) {
                return NOTHING;
            }
            if (!(held[a] instanceof Row row) || row.isOfFigures()) {
                return STORE;
            }
            if (!row.hasPlace(marks[a])) {
                return PLACE;
            }
            row.cells[marks[a]] = Numbers.cutToKind(row.kind, c);
            return DONE;
        }

        private int seat(int a, int b) {
            if (held[a] == null) {
                return NOTHING;
            }
            if (!(held[a] instanceof Row row) || !row.isOfFigures()) {
                return STORE;
            }
            int number = NO_FIGURE;
            if (held[b] instanceof Figure figure) {
                number = figure.number;
            } else if (held[b] != null) {
                return STORE;
            }
            if (!row.hasPlace(marks[a])) {
                return PLACE;
            }
            if (!row.canHave(stock.sortOf(number))) {
                return STORE;
            }
            row.cells[marks[a]] = number;
            return DONE;
        }

        private int lift(int a, int b) {
            if (held[a] == null) {
                return NOTHING;
            }
            if (!(held[a] instanceof Row row) || !row.isOfFigures()) {
                return STORE;
            }
            if (!row.hasPlace(marks[a])) {
                return PLACE;
            }
            held[b] = stock.figureOf(row.cells[marks[a]]);
            return DONE;
        }
    }

    /** Bits are put together by hand, as Float and Double are not in the language's library. */
    private static final class Numbers {
        private static final int FLOAT_FRACTION = 23;
        private static final int FLOAT_BIAS = 127;
        private static final int DOUBLE_FRACTION = 52;
        private static final long DOUBLE_BIAS = 1023;

        static long cutToKind(int kind, int number) {
            switch (kind) {
                case TRUTHS:
                    return number != 0 ? 1 : 0;
                case BYTES:
                    return (byte) number;
                case SIGNS:
                    return (char) number;
                case SHORTS:
                    return (short) number;
                case FLOATS:
                    return floatBits(number);
                case DOUBLES:
                    return doubleBits(number);
                default:
                    return number;
            }
        }

        private static int floatBits(int number) {
            if (number == 0) {
                return 0;
            }
            long size = Math.abs((long) number);
            int top = topBit(size);
            long digits = top <= FLOAT_FRACTION
                    ? size << (FLOAT_FRACTION - top)
                    : shiftedToNearest(size, top - FLOAT_FRACTION);
            // Added, not joined: digits that were rounded up to one more bit raise the exponent.
            long bits = ((long) (top + FLOAT_BIAS) << FLOAT_FRACTION) + digits - (1L << FLOAT_FRACTION);
            return (int) (number < 0 ? bits | 1L << 31 : bits);
        }

        private static long doubleBits(int number) {
            if (number == 0) {
                return 0;
            }
            long size = Math.abs((long) number);
            int top = topBit(size);
            long digits = size << (DOUBLE_FRACTION - top);
            long bits = ((top + DOUBLE_BIAS) << DOUBLE_FRACTION) + digits - (1L << DOUBLE_FRACTION);
            return number < 0 ? bits | 1L << 63 : bits;
        }

        private static int topBit(long size) {
            int top = 0;
            for (int bit = 1; bit < 32; bit++) {
                if (size >> bit != 0) {
                    top = bit;
                }
            }
            return top;
        }

        /** Of two that are as near the even one is taken, as Java's own cast does. */
        private static long shiftedToNearest(long size, int shift) {
            long kept = size >> shift;
            long lost = size - (kept << shift);
            long half = 1L << (shift - 1);
            boolean up = lost > half || lost == half && (kept & 1) == 1;
            return up ? kept + 1 : kept;
        }
    }

    private static final class Tune {
        private final int[] codes = new int[MOST_IN_TUNE];
        private final int[] as = new int[MOST_IN_TUNE];
        private final int[] bs = new int[MOST_IN_TUNE];
        private final int[] cs = new int[MOST_IN_TUNE];
        private final int[] timesAgain = new int[MOST_IN_TUNE];
        private int length;

        int append(int code, int a, int b, int c) {
            int number = length;
            codes[number] = code;
            as[number] = a;
            bs[number] = b;
            cs[number] = c;
            length++;
            return number;
        }

        void forgetAgains() {
            for (int i = 0; i < MOST_IN_TUNE; i++) {
                timesAgain[i] = 0;
            }
        }

        /** Where it goes on behind an order that was not refused; it may be beyond the last. */
        int following(int at) {
            if (codes[at] == ORDER_WHEN) {
                return at + 1 + cs[at];
            }
            if (codes[at] != ORDER_AGAIN) {
                return at + 1;
            }
            if (timesAgain[at] < cs[at]) {
                timesAgain[at]++;
                return Math.max(0, at - bs[at]);
            }
            timesAgain[at] = 0;
            return at + 1;
        }

        /** Where it goes on behind an order that was refused, or NONE if no WHEN meets the refusal. */
        int meeting(int at, int refusal) {
            int looked = at + 1;
            for (int tries = 0; tries < MOST_IN_TUNE && isWhen(looked); tries++) {
                if (as[looked] == 0 || as[looked] == refusal) {
                    return looked + 1;
                }
                looked += cs[looked] + 1;
            }
            return NONE;
        }

        private boolean isWhen(int number) {
            return number >= 0 && number < length && codes[number] == ORDER_WHEN;
        }
    }

    /** The latest pages in a ring, so that the oldest gives way without anything being moved. */
    private static final class Book {
        private final Row[] rows = new Row[MOST_PAGES];
        private final long[] pages = new long[MOST_PAGES * MOST_LENGTH];
        private int kept;
        private int next;

        void write(Row row, long[] cells) {
            rows[next] = row;
            System.arraycopy(cells, 0, pages, next * MOST_LENGTH, row.cells.length);
            next = (next + 1) % MOST_PAGES;
            kept = Math.min(kept + 1, MOST_PAGES);
        }

        boolean takeBack() {
            int last = (next + MOST_PAGES - 1) % MOST_PAGES;
            Row row = rows[last];
            if (kept == 0 || row == null) {
                return false;
            }
            System.arraycopy(pages, last * MOST_LENGTH, row.cells, 0, row.cells.length);
            next = last;
            kept--;
            return true;
        }
    }
}
