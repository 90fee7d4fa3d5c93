/** Promise 1: what a new object holds. */
public final class NewObjectTest {
    public static void main(String[] args) {
        nothingThere();
        oneMeasureOfNothing();
        firstRules();
        firstCosts();
        firstDemerits();
        skipsOfNothing();
        objectsAreApart();
        Check.end();
    }

    private static void nothingThere() {
        LineDesk desk = new LineDesk();
        Check.about(desk, 0, 0, 0, 0, 0, 0);
        Check.due("line(1, 0)", Check.answer(() -> desk.line(1, 0)), Check.INDEX);
        Check.lines(desk, Check.STATE);
        Check.due("NONE", LineDesk.NONE, -1);
    }

    private static void oneMeasureOfNothing() {
        LineDesk desk = new LineDesk();
        desk.box(7);
        Check.lines(desk, 1);
        Check.line(desk, 1, 0, 1, 10000, 3, 7);
        Check.due("measure(3, 1)", desk.measure(3, 1), false);
        Check.due("measure(2, 1)", desk.measure(2, 1), true);
    }

    /** A line of badness 100 passes with PRETOLERANCE, of 200 with TOLERANCE, of more with neither. */
    private static void firstRules() {
        Check.due("pass for 297", passOfRatio(297), 1);
        Check.due("pass for 298", passOfRatio(298), 2);
        Check.due("pass for 374", passOfRatio(374), 2);
        Check.due("pass for 375", passOfRatio(375), 3);
    }

    /** The badness of a line that stretches ratio / 297 times its stretch. */
    private static long passOfRatio(int ratio) {
        LineDesk desk = new LineDesk();
        desk.measure(1, ratio);
        desk.glue(0, 297, 0, 0);
        Check.lines(desk, 1);
        return desk.about(0);
    }

    private static void firstCosts() {
        LineDesk desk = new LineDesk();
        desk.measure(1, 10);
        desk.box(10);
        desk.cut(0, 0, 0, 1);
        desk.box(10);
        Check.lines(desk, 2);
        Check.about(desk, 1, 2, 10 * 10 + 50 * 50 + 10 * 10 + 5000, 0, 0, 3);
        desk.clear();
        desk.box(10);
        desk.cut(0, 0, 0, 0);
        desk.box(10);
        desk.cut(0, 0, 0, 1);
        desk.box(10);
        Check.lines(desk, 3);
        Check.about(desk, 1, 3, 3 * 100 + 2 * 2500 + 10000 + 5000, 0, 0, 5);
    }

    /** ADJACENT for a line of class 0 behind the front's class 2; LINE 10. */
    private static void firstDemerits() {
        LineDesk desk = new LineDesk();
        desk.measure(1, 320);
        desk.glue(0, 297, 0, 0);
        Check.lines(desk, 1);
        Check.line(desk, 1, 0, 1, 125, 0, 0);
        Check.about(desk, 2, 1, 135 * 135 + 10000, 0, 0, 1);
    }

    private static void skipsOfNothing() {
        LineDesk desk = new LineDesk();
        desk.measure(1, 10);
        desk.box(9);
        Check.lines(desk, 1);
        Check.line(desk, 1, 0, 1, 10000, 0, 0);
        desk.clear();
        desk.box(11);
        Check.lines(desk, 1);
        Check.line(desk, 1, 0, 1, 10000, 3, 1);
    }

    private static void objectsAreApart() {
        LineDesk one = new LineDesk();
        LineDesk two = new LineDesk();
        one.rule(2, 77);
        one.measure(1, 5);
        one.box(5);
        Check.lines(one, 1);
        Check.about(two, 0, 0, 0, 0, 0, 0);
        Check.due("two's first box", two.box(0), 0);
        Check.lines(two, 1);
        Check.about(two, 1, 1, 100, 0, 0, 1);
        Check.about(one, 1, 1, 77 * 77, 0, 0, 1);
    }
}
