/** Many runs of calls, each made of PinBarrels and of the Model, whose answers must be the same. */
public final class ModelTest {
    private static final int OBJECTS = 1200;
    /** What an object answers beyond 512 calls is free: these and the looks at the end are no more. */
    private static final int CALLS_AHEAD_OF_THE_END = 360;
    private static final int CALLS = 512;

    private int seed;
    private int wrong = 0;
    private int answers = 0;
    private int spindles;
    private int leastKind;
    private int kinds;
    private int mostLength;
    private int runsInHundred;
    private PinBarrels it;
    private Model model;

    private ModelTest(int seed) {
        this.seed = seed;
    }

    public static void main(String[] args) {
        int wrong = 0;
        int answers = 0;
        for (int i = 1; i <= OBJECTS; i++) {
            ModelTest test = new ModelTest(i * 7919);
            test.oneObject(i);
            wrong += test.wrong;
            answers += test.answers;
        }
        System.out.println(answers + " answers looked at, " + wrong + " not as due");
        if (wrong != 0) {
            System.exit(1);
        }
    }

    /** From 0 on, below the bound. */
    private int some(int bound) {
        seed = seed * 1103515245 + 12345;
        return ((seed >>> 8) & 0x7fffff) % bound;
    }

    private int any() {
        int[] edges = {
            -1, 0, 1, 2, 5, 9, 10, 11, 12, 13, 60, 61, 64, 65, 300, 301, Integer.MAX_VALUE, Integer.MIN_VALUE
        };
        return some(2) == 0 ? edges[some(edges.length)] : (some(1 << 20) << 12) ^ some(1 << 20);
    }

    private void oneObject(int number) {
        it = new PinBarrels();
        model = new Model();
        spindles = 2 + some(5);
        leastKind = number % 3 == 0 ? 8 : number % 3 == 1 ? some(8) : 0;
        kinds = number % 3 == 0 ? 4 : number % 3 == 1 ? 2 : 12;
        mostLength = number % 5 == 0 ? 64 : 1 + some(12);
        runsInHundred = number % 4 == 0 ? 30 : 4;
        while (answers < CALLS_AHEAD_OF_THE_END && wrong == 0) {
            oneCall(number);
        }
        sameState(number);
    }

    private void due(int object, String call, long got, long want) {
        answers++;
        if (got != want) {
            wrong++;
            System.out.println("object " + object + ": " + call + " answered " + got + ", due is " + want);
        }
    }

    private void oneCall(int object) {
        int chance = some(100);
        if (chance < runsInHundred) {
            int most = some(3) == 0 ? some(30) : some(2) == 0 ? 300 : any();
            due(object, "run " + most, it.run(most), model.run(most));
        } else if (chance < 60) {
            int[] o = someOrder(13);
            due(object, text("act", o), it.act(o[0], o[1], o[2], o[3]), model.act(o[0], o[1], o[2], o[3]));
        } else if (chance < 80) {
            int[] o = someOrder(18);
            due(object, text("order", o), it.order(o[0], o[1], o[2], o[3]), model.order(o[0], o[1], o[2], o[3]));
        } else if (chance < 83) {
            int n = some(4) == 0 ? any() : some(20);
            due(object, "cut " + n, it.cut(n) ? 1 : 0, model.cut(n) ? 1 : 0);
        } else if (chance < 86) {
            due(object, "back", it.back() ? 1 : 0, model.back() ? 1 : 0);
        } else {
            oneLook(object);
        }
    }

    private void oneLook(int object) {
        int k = some(8) == 0 ? any() : some(spindles);
        int what = some(8) == 0 ? any() : some(10);
        due(object, "look " + k + " " + what % 5, it.look(k, what % 5), model.look(k, what % 5));
        due(object, "look " + k + " " + what, it.look(k, what), model.look(k, what));
        due(object, "cell " + k + " " + what, it.cell(k, what), model.cell(k, what));
        due(object, "sort " + what, it.sort(what), model.sort(what));
        due(object, "count " + what, it.count(what), model.count(what));
    }

    private static String text(String call, int[] o) {
        return call + " " + o[0] + " " + o[1] + " " + o[2] + " " + o[3];
    }

    private int[] someOrder(int codes) {
        if (some(40) == 0) {
            return new int[] {some(17) - 1, any(), any(), any()};
        }
        // Codes from 15 on stand for more of the two that lead a tune.
        int drawn = some(codes);
        int code = drawn > 14 ? 13 + drawn % 2 : drawn;
        int a = some(spindles);
        int b = some(spindles);
        switch (code) {
            case 0:
                return new int[] {code, a, any(), some(12) == 0 ? any() : some(mostLength + 1)};
            case 5:
                return new int[] {code, a, leastKind + some(kinds), some(12) == 0 ? any() : some(mostLength + 1)};
            case 9:
                return new int[] {code, a, some(6), any()};
            case 13:
                return new int[] {code, some(4) == 0 ? some(6) : some(4), any(), some(6) == 0 ? some(61) : some(4)};
            case 14:
                return new int[] {code, any(), 1 + some(some(6) == 0 ? 60 : 5), some(some(4) == 0 ? 21 : 4)};
            default:
                return new int[] {code, a, b, some(6) == 0 || code == 10 ? any() : some(mostLength / 2 + 2)};
        }
    }

    private void sameState(int object) {
        for (int k = 0; k < 10; k++) {
            for (int what = 0; what < 4; what++) {
                due(object, "at the end look " + k + " " + what, it.look(k, what), model.look(k, what));
            }
        }
        for (int what = 0; what < 10; what++) {
            due(object, "at the end count " + what, it.count(what), model.count(what));
        }
        while (answers + 2 <= CALLS) {
            int k = some(spindles);
            int i = some(mostLength + 1);
            due(object, "at the end cell " + k + " " + i, it.cell(k, i), model.cell(k, i));
            int figure = some(model.count(4) + 2);
            due(object, "at the end sort " + figure, it.sort(figure), model.sort(figure));
        }
    }
}
