/** Promise 1: what a new object holds, and that objects have nothing in common. */
public final class NewObjectTest {
    public static void main(String[] args) {
        Probe p = new Probe("new");
        holdsNothing(p);
        p.back(false);
        Probe used = new Probe("used");
        used.numbers(3, 4, 7, 8);
        used.mark(5, 12);
        used.tune(Probe.MARK, 0, 0, 1);
        used.act(Probe.DONE, Probe.HANG, 1, 2, 0);
        used.run(0, 5);
        holdsNothing(new Probe("new beside a used one"));
        holdsNothing(p);
        Probe.end();
    }

    private static void holdsNothing(Probe p) {
        for (int k = 0; k < 10; k++) {
            p.look(Probe.NONE, k, 0);
            p.look(Probe.NONE, k, 1);
            p.look(0, k, 2);
            p.look(Probe.NONE, k, 3);
            p.cell(0, k, 0);
        }
        for (int what = 0; what < 9; what++) {
            p.count(0, what);
        }
        p.count(Probe.NONE, 9);
        p.sort(Probe.NONE, 1);
    }
}
