/** Promise 3: cut(). */
public final class CutTest {
    public static void main(String[] args) {
        Probe p = new Probe("cut");
        p.cut(true, 0);
        p.cut(false, 1);
        p.cut(false, -1);
        p.tune(Probe.MARK, 0, 0, 1, Probe.MARK, 0, 0, 2, Probe.MARK, 0, 0, 3);
        p.cut(false, 4);
        p.cut(false, -1);
        p.cut(false, Probe.MIN);
        p.cut(false, Probe.MAX);
        p.count(3, 0);
        p.cut(true, 3);
        p.count(3, 0);
        p.run(0, 300);
        p.look(3, 0, 2);
        p.cut(true, 2);
        p.count(2, 0);
        p.cut(false, 3);
        p.run(0, 300);
        p.look(2, 0, 2);
        p.order(2, Probe.MARK, 0, 0, 9);
        p.run(0, 300);
        p.look(9, 0, 2);
        p.cut(true, 0);
        p.count(0, 0);
        p.run(0, 0);
        p.look(9, 0, 2);
        // A WHEN that was cut away meets nothing any more.
        p.tune(Probe.TURN, 1, 0, 1, Probe.WHEN, 0, 0, 0);
        p.run(0, 300);
        p.cut(true, 1);
        p.run(Probe.NOTHING, 300);
        Probe.end();
    }
}
