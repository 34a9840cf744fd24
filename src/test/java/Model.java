import java.lang.reflect.Array;
import java.util.ArrayDeque;
import java.util.ArrayList;
import java.util.Collections;
import java.util.List;

/**
 * A second workshop, built another way: its rows are Java's own arrays, and System.arraycopy itself says
 * what can't be spliced. It is there to be compared with, so it may catch what the machine throws.
 */
final class Model {
    private static class Plain {
        final int number;

        Plain(int number) {
            this.number = number;
        }
    }

    private static class Dancer extends Plain {
        Dancer(int number) {
            super(number);
        }
    }

    private static final class Prince extends Dancer {
        Prince(int number) {
            super(number);
        }
    }

    private static final class Piper extends Plain {
        Piper(int number) {
            super(number);
        }
    }

    private static final class Crank {
    }

    private static final class Refused extends Exception {
        private static final long serialVersionUID = 1L;
        final int refusal;

        Refused(int refusal) {
            this.refusal = refusal;
        }
    }

    private record Page(Object row, Object cells) {
    }

    private static final List<Class<?>> KINDS = List.of(boolean.class, byte.class, char.class, short.class,
            int.class, long.class, float.class, double.class, Plain.class, Dancer.class, Prince.class, Piper.class);
    private static final List<Class<?>> SORTS = List.of(Plain.class, Dancer.class, Prince.class, Piper.class);

    private final Object[] held = new Object[10];
    private final int[] marks = new int[10];
    private final List<int[]> tune = new ArrayList<>();
    private final List<Object> rows = new ArrayList<>();
    private final List<Plain> figures = new ArrayList<>();
    private final ArrayDeque<Page> book = new ArrayDeque<>();
    private int begun = 0;
    private int refusals = 0;
    private int met = 0;
    private int runBegun = 0;
    private int runEnder = -1;

    private static boolean in(int number, int least, int most) {
        return least <= number && number <= most;
    }

    private static boolean valid(int code, int a, int b, int c) {
        if (code == 13) {
            return in(a, 0, 5) && in(c, 0, 60);
        }
        if (code == 14) {
            return in(b, 1, 60) && in(c, 0, 20);
        }
        if (!in(code, 0, 12) || !in(a, 0, 9)) {
            return false;
        }
        boolean bIsAny = List.of(0, 2, 3, 4, 10).contains(code);
        int mostB = code == 5 ? 11 : code == 9 ? 5 : 9;
        return bIsAny || in(b, 0, mostB);
    }

    int order(int code, int a, int b, int c) {
        if (tune.size() == 60 || !valid(code, a, b, c)) {
            return -1;
        }
        tune.add(new int[] {code, a, b, c});
        return tune.size() - 1;
    }

    boolean cut(int n) {
        if (!in(n, 0, tune.size())) {
            return false;
        }
        tune.subList(n, tune.size()).clear();
        return true;
    }

    int act(int code, int a, int b, int c) {
        if (!valid(code, a, b, c) || code > 12) {
            return -1;
        }
        return begun == 4000 ? 6 : begin(code, a, b, c);
    }

    private int begin(int code, int a, int b, int c) {
        begun++;
        List<Page> ahead = new ArrayList<>();
        for (Object row : rows) {
            ahead.add(new Page(row, copy(row)));
        }
        int refusal = 0;
        try {
            perform(code, a, b, c);
        } catch (Refused e) {
            refusal = e.refusal;
            refusals++;
        }
        for (Page page : ahead) {
            if (!sameCells(page.row, page.cells)) {
                book.addLast(page);
                if (book.size() > 20) {
                    book.removeFirst();
                }
            }
        }
        return refusal;
    }

    private static Object copy(Object row) {
        int length = Array.getLength(row);
        Object copy = Array.newInstance(row.getClass().getComponentType(), length);
        System.arraycopy(row, 0, copy, 0, length);
        return copy;
    }

    private static boolean sameCells(Object row, Object other) {
        for (int i = 0; i < Array.getLength(row); i++) {
            if (bits(Array.get(row, i)) != bits(Array.get(other, i))) {
                return false;
            }
        }
        return true;
    }

    private static long bits(Object cell) {
        if (cell == null) {
            return 0;
        } else if (cell instanceof Boolean truth) {
            return truth ? 1 : 0;
        } else if (cell instanceof Character sign) {
            return sign;
        } else if (cell instanceof Float number) {
            return Float.floatToRawIntBits(number);
        } else if (cell instanceof Double number) {
            return Double.doubleToRawLongBits(number);
        } else if (cell instanceof Number number) {
            return number.longValue();
        }
        return ((Plain) cell).number;
    }

    private void perform(int code, int a, int b, int c) throws Refused {
        switch (code) {
            case 0 -> marks[a] = c;
            case 1 -> splice(held[a], marks[a], held[b], marks[b], c);
            case 2 -> turn(row(a), c);
            case 3 -> open(row(a), marks[a], c);
            case 4 -> shut(row(a), marks[a], c);
            case 5 -> held[a] = make(KINDS.get(b), c);
            case 6 -> {
                Object from = row(b);
                Object made = make(from.getClass().getComponentType(), Array.getLength(from));
                System.arraycopy(from, 0, made, 0, Array.getLength(from));
                held[a] = made;
            }
            case 7 -> held[a] = held[b];
            case 8 -> {
                Object was = held[a];
                held[a] = held[b];
                held[b] = was;
            }
            case 9 -> hang(a, b);
            case 10 -> pin(a, c);
            case 11 -> seat(a, held[b]);
            case 12 -> held[b] = Array.get(rowOfFigures(a), placeIn(rowOfFigures(a), marks[a]));
            default -> {
            }
        }
    }

    private static void splice(Object from, int fromMark, Object to, int toMark, int places) throws Refused {
        try {
            System.arraycopy(from, fromMark, to, toMark, places);
        } catch (NullPointerException e) {
            throw new Refused(1);
        } catch (ArrayStoreException e) {
            throw new Refused(2);
        } catch (IndexOutOfBoundsException e) {
            throw new Refused(3);
        }
    }

    private Object row(int a) throws Refused {
        if (held[a] == null) {
            throw new Refused(1);
        }
        if (!held[a].getClass().isArray()) {
            throw new Refused(2);
        }
        return held[a];
    }

    private Object rowOfFigures(int a) throws Refused {
        Object row = row(a);
        if (row.getClass().getComponentType().isPrimitive()) {
            throw new Refused(2);
        }
        return row;
    }

    private static int placeIn(Object row, int place) throws Refused {
        if (!in(place, 0, Array.getLength(row) - 1)) {
            throw new Refused(3);
        }
        return place;
    }

    private static void fill(Object row, List<Object> cells) {
        for (int i = 0; i < cells.size(); i++) {
            Array.set(row, i, cells.get(i));
        }
    }

    private static List<Object> cells(Object row) {
        List<Object> cells = new ArrayList<>();
        for (int i = 0; i < Array.getLength(row); i++) {
            cells.add(Array.get(row, i));
        }
        return cells;
    }

    private static void turn(Object row, int places) {
        List<Object> cells = cells(row);
        if (!cells.isEmpty()) {
            Collections.rotate(cells, -(places % cells.size()));
            fill(row, cells);
        }
    }

    private static List<Object> cellsWithPlaces(Object row, int mark, int places) throws Refused {
        if (mark < 0 || places < 0 || (long) mark + places > Array.getLength(row)) {
            throw new Refused(3);
        }
        return cells(row);
    }

    private static Object emptyCell(Object row) {
        return Array.get(Array.newInstance(row.getClass().getComponentType(), 1), 0);
    }

    private static void open(Object row, int mark, int places) throws Refused {
        List<Object> cells = cellsWithPlaces(row, mark, places);
        for (int i = 0; i < places; i++) {
            cells.add(mark, emptyCell(row));
            cells.remove(cells.size() - 1);
        }
        fill(row, cells);
    }

    private static void shut(Object row, int mark, int places) throws Refused {
        List<Object> cells = cellsWithPlaces(row, mark, places);
        for (int i = 0; i < places; i++) {
            cells.remove(mark);
            cells.add(emptyCell(row));
        }
        fill(row, cells);
    }

    private Object make(Class<?> kind, int length) throws Refused {
        if (length < 0) {
            throw new Refused(5);
        }
        if (rows.size() == 120 || length > 64 || cellsMade() + length > 3000) {
            throw new Refused(4);
        }
        Object row = Array.newInstance(kind, length);
        rows.add(row);
        return row;
    }

    private int cellsMade() {
        return rows.stream().mapToInt(Array::getLength).sum();
    }

    private void hang(int a, int b) throws Refused {
        if (b >= 2 && figures.size() == 400) {
            throw new Refused(4);
        }
        int number = figures.size() + 1;
        Object thing = switch (b) {
            case 0 -> null;
            case 1 -> new Crank();
            case 2 -> new Plain(number);
            case 3 -> new Dancer(number);
            case 4 -> new Prince(number);
            default -> new Piper(number);
        };
        if (thing instanceof Plain figure) {
            figures.add(figure);
        }
        held[a] = thing;
    }

    private void pin(int a, int c) throws Refused {
        Object row = row(a);
        if (!row.getClass().getComponentType().isPrimitive()) {
            throw new Refused(2);
        }
        int i = placeIn(row, marks[a]);
        if (row instanceof boolean[] cells) {
            cells[i] = c != 0;
        } else if (row instanceof byte[] cells) {
            cells[i] = (byte) c;
        } else if (row instanceof char[] cells) {
            cells[i] = (char) c;
        } else if (row instanceof short[] cells) {
            cells[i] = (short) c;
        } else {
            Array.setInt(row, i, c);
        }
    }

    private void seat(int a, Object figure) throws Refused {
        Object row = rowOfFigures(a);
        if (figure != null && !(figure instanceof Plain)) {
            throw new Refused(2);
        }
        int i = placeIn(row, marks[a]);
        if (figure != null && !row.getClass().getComponentType().isInstance(figure)) {
            throw new Refused(2);
        }
        Array.set(row, i, figure);
    }

    int run(int most) {
        if (!in(most, 0, 300)) {
            return -1;
        }
        runBegun = 0;
        runEnder = -1;
        int[] gone = new int[60];
        int at = 0;
        while (at < tune.size()) {
            int[] o = tune.get(at);
            if (begun == 4000) {
                runEnder = at;
                return 6;
            }
            if (runBegun == most) {
                return 7;
            }
            runBegun++;
            int refusal = begin(o[0], o[1], o[2], o[3]);
            if (refusal != 0) {
                int when = whenFor(at + 1, refusal);
                if (when < 0) {
                    runEnder = at;
                    return refusal;
                }
                met++;
                at = when + 1;
            } else if (o[0] == 14 && gone[at] < o[3]) {
                gone[at]++;
                at = o[2] > at ? 0 : at - o[2];
            } else {
                gone[at] = 0;
                at += o[0] == 13 ? o[3] + 1 : 1;
            }
        }
        return 0;
    }

    private int whenFor(int looked, int refusal) {
        if (looked >= tune.size() || tune.get(looked)[0] != 13) {
            return -1;
        }
        int[] when = tune.get(looked);
        boolean meets = when[1] == 0 || when[1] == refusal;
        return meets ? looked : whenFor(looked + when[3] + 1, refusal);
    }

    boolean back() {
        Page page = book.pollLast();
        if (page == null) {
            return false;
        }
        System.arraycopy(page.cells, 0, page.row, 0, Array.getLength(page.row));
        return true;
    }

    int look(int k, int what) {
        if (!in(k, 0, 9) || !in(what, 0, 3)) {
            return -1;
        }
        Object thing = held[k];
        if (what == 2) {
            return marks[k];
        }
        if (thing == null) {
            return -1;
        }
        if (what == 3) {
            int least = 0;
            while (held[least] != thing) {
                least++;
            }
            return least;
        }
        if (thing instanceof Plain figure) {
            return what == 0 ? 12 + sort(figure.number) : figure.number;
        }
        if (thing instanceof Crank) {
            return what == 0 ? 12 : -1;
        }
        return what == 0 ? KINDS.indexOf(thing.getClass().getComponentType()) : Array.getLength(thing);
    }

    long cell(int k, int i) {
        if (!in(k, 0, 9) || held[k] == null || !held[k].getClass().isArray()) {
            return 0;
        }
        return in(i, 0, Array.getLength(held[k]) - 1) ? bits(Array.get(held[k], i)) : 0;
    }

    int sort(int figure) {
        return in(figure, 1, figures.size()) ? SORTS.indexOf(figures.get(figure - 1).getClass()) + 1 : -1;
    }

    int count(int what) {
        int[] counts = {
            tune.size(), begun, rows.size(), cellsMade(), figures.size(), book.size(), refusals, met, runBegun,
            runEnder
        };
        return in(what, 0, 9) ? counts[what] : -1;
    }
}
