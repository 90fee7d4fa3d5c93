/** Promise 1: what a new object holds. */
public final class NewObjectTest {
    public static void main(String[] args) {
        Check.sentence("No items", NewObjectTest::noItems);
        Check.sentence("PRETOLERANCE 100", NewObjectTest::pretolerance);
        Check.sentence("TOLERANCE 200", NewObjectTest::tolerance);
        Check.sentence("LINE 10", NewObjectTest::line);
        Check.sentence("HYPHEN and BARE 50", NewObjectTest::hyphenAndBare);
        Check.sentence("ADJACENT and TWICE 10000", NewObjectTest::adjacentAndTwice);
        Check.sentence("FINAL 5000", NewObjectTest::last);
        Check.sentence("LOOSENESS 0", NewObjectTest::looseness);
        Check.sentence("one measure, 0", NewObjectTest::oneMeasure);
        Check.sentence("skips of nothing", NewObjectTest::skips);
        Check.sentence("The constants: NONE = -1", NewObjectTest::none);
        Check.sentence("each object is new", NewObjectTest::objectsAreApart);
        Check.end();
    }

    private static void noItems() {
        LineDesk desk = new LineDesk();
        Check.about(desk, 0, 0, 0, 0, 0, 0);
        Check.due("line(1, 0)", Check.answer(() -> desk.line(1, 0)), Check.INDEX);
        Check.lines(desk, Check.STATE);
        Check.due("the first item", desk.box(0), 0);
    }

    /** The pass of a line with this excess, stretched by 297: 297 is badness 100, 298 101, 374 200, 375 201. */
    private static long passOf(int excess) {
        LineDesk desk = new LineDesk();
        desk.measure(1, excess);
        desk.glue(0, 297, 0, 0);
        Check.lines(desk, 1);
        return desk.about(0);
    }

    private static void pretolerance() {
        Check.due("pass for 100", passOf(297), 1);
        Check.due("pass for 101", passOf(298), 2);
    }

    private static void tolerance() {
        Check.due("pass for 200", passOf(374), 2);
        Check.due("pass for 201", passOf(375), 3);
    }

    private static void line() {
        LineDesk desk = new LineDesk();
        desk.box(0);
        Check.lines(desk, 1);
        Check.about(desk, 1, 1, 100, 0, 0, 1);
    }

    private static void hyphenAndBare() {
        for (int flags = 0; flags <= 1; flags++) {
            LineDesk desk = new LineDesk();
            desk.rule(7, 0);
            desk.cut(0, 1, 9, flags);
            desk.box(-1);
            Check.lines(desk, 2);
            Check.about(desk, 1, 2, 200 + 2500, 0, 0, 2);
        }
    }

    private static void adjacentAndTwice() {
        LineDesk desk = new LineDesk();
        desk.measure(1, 1);
        desk.box(0);
        Check.lines(desk, 1);
        Check.line(desk, 1, 0, 1, 10000, 0, 0);
        Check.about(desk, 3, 1, 100000000 + 10000, 0, 1, 1);
        desk.measure(1, 10);
        desk.rule(7, 0);
        desk.clear();
        desk.box(10);
        desk.cut(0, 0, 0, 0);
        desk.box(10);
        desk.cut(0, 0, 0, 1);
        desk.box(10);
        Check.lines(desk, 3);
        Check.about(desk, 1, 3, 300 + 2 * 2500 + 10000, 0, 0, 5);
    }

    private static void last() {
        LineDesk desk = new LineDesk();
        desk.measure(1, 10);
        desk.box(10);
        desk.cut(0, 0, 0, 1);
        desk.box(10);
        Check.lines(desk, 2);
        Check.about(desk, 1, 2, 200 + 2500 + 5000, 0, 0, 3);
    }

    private static void looseness() {
        LineDesk desk = new LineDesk();
        for (int i = 0; i < 4; i++) {
            desk.penalty(-11);
        }
        desk.penalty(0);
        Check.lines(desk, 5);
        Check.about(desk, 1, 5, 500 - 4 * 121, 0, 0, 5);
    }

    private static void oneMeasure() {
        LineDesk desk = new LineDesk();
        desk.box(7);
        desk.penalty(-10000);
        desk.box(9);
        Check.lines(desk, 2);
        Check.column(desk, 4, 7, 9);
        Check.due("measure(3, 1)", desk.measure(3, 1), false);
        Check.due("measure(2, 1)", desk.measure(2, 1), true);
        Check.lines(desk, 2);
        Check.column(desk, 4, 7, 8);
    }

    private static void skips() {
        LineDesk desk = new LineDesk();
        desk.measure(1, 10);
        int[][] rows = {{9, 10000, 0, 0}, {10, 0, 2, 0}, {11, 10000, 3, 1}};
        for (int[] row : rows) {
            desk.clear();
            desk.box(row[0]);
            Check.lines(desk, 1);
            Check.line(desk, 1, 0, 1, row[1], row[2], row[3]);
        }
    }

    private static void none() {
        Check.due("NONE", LineDesk.NONE, -1);
    }

    private static void objectsAreApart() {
        LineDesk one = Twins.make();
        LineDesk two = new LineDesk();
        Check.about(two, 0, 0, 0, 0, 0, 0);
        Check.due("two's first box", two.box(0), 0);
        Check.lines(two, 1);
        Check.about(two, 1, 1, 100, 0, 0, 1);
        Check.due("one's pass", one.about(0), 3);
        Check.due("one's items", one.about(5), 29);
    }
}
