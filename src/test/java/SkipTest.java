/** Promise 4: skip. */
public final class SkipTest {
    private static final int MAX = Check.WIDEST;

    public static void main(String[] args) {
        Check.sentence("The SKIP of a side (0 left, 1 right)", SkipTest::sides);
        Check.sentence("has a width, a stretch of an order, a shrink: true", SkipTest::parts);
        Check.sentence("a stretch of an order", SkipTest::orders);
        Check.sentence("false, changing nothing, if the side is out of its bounds", SkipTest::noSuchSide);
        Check.sentence("the width is out of its bounds", SkipTest::width);
        Check.sentence("the stretch is out of its bounds", SkipTest::stretch);
        Check.sentence("the order is out of its bounds", SkipTest::order);
        Check.sentence("the shrink is out of its bounds", SkipTest::shrink);
        Check.sentence("what a skip had is gone when it is set again", SkipTest::setAgain);
        Check.sentence("the lines made stay", SkipTest::linesStay);
        Check.end();
    }

    private static void taken(int width, int stretch, int order, int shrink) {
        LineDesk desk = new LineDesk();
        for (int side = 0; side <= 1; side++) {
            Check.due("skip of side " + side, desk.skip(side, width, stretch, order, shrink), true);
        }
    }

    private static void refused(int width, int stretch, int order, int shrink) {
        for (int side = 0; side <= 1; side++) {
            refusedOf(side, width, stretch, order, shrink);
        }
    }

    private static void refusedOf(int side, int width, int stretch, int order, int shrink) {
        Twins.refused("skip(" + side + ", " + width + ", " + stretch + ", " + order + ", " + shrink + ")",
            desk -> desk.skip(side, width, stretch, order, shrink) ? 1 : 0, 0);
    }

    private static LineDesk twoLines() {
        LineDesk desk = new LineDesk();
        desk.measure(1, 20);
        desk.box(10);
        desk.penalty(-10000);
        desk.box(12);
        return desk;
    }

    private static void sides() {
        LineDesk desk = twoLines();
        desk.skip(0, 11, 0, 0, 0);
        desk.skip(1, 200, 0, 0, 0);
        Check.lines(desk, 2);
        Check.column(desk, 4, 201, 203);
        desk.skip(0, 0, 0, 0, 0);
        Check.lines(desk, 2);
        Check.column(desk, 4, 190, 192);
        desk.skip(1, -100, 0, 0, 0);
        desk.skip(0, 111, 0, 0, 0);
        Check.lines(desk, 2);
        Check.column(desk, 4, 1, 3);
    }

    private static void parts() {
        for (int side = 0; side <= 1; side++) {
            LineDesk desk = twoLines();
            Check.due("shrink", desk.skip(side, 12, 0, 0, 3), true);
            Check.lines(desk, 2);
            Check.line(desk, 1, 0, 1, 30, 3, 0);
            Check.line(desk, 2, 2, 3, 10000, 3, 1);
            Check.due("stretch", desk.skip(side, 0, 8, 0, 0), true);
            Check.lines(desk, 2);
            Check.line(desk, 1, 0, 1, 195, 0, 0);
            Check.line(desk, 2, 2, 3, 100, 0, 0);
            Check.due("the other's stretch", desk.skip(1 - side, 3, 2, 0, 0), true);
            Check.lines(desk, 2);
            Check.line(desk, 1, 0, 1, 34, 1, 0);
            Check.line(desk, 2, 2, 3, 12, 2, 0);
        }
    }

    private static void orders() {
        for (int order = 1; order <= 3; order++) {
            for (int side = 0; side <= 1; side++) {
                LineDesk desk = twoLines();
                desk.skip(side, 1, 1, order, 0);
                Check.lines(desk, 2);
                Check.column(desk, 2, 0, 0);
                desk.skip(side, 1, 0, order, 0);
                Check.lines(desk, 2);
                Check.column(desk, 2, 10000, 10000);
                desk.skip(side, 7, 0, order, 0);
                Check.lines(desk, 2);
                Check.column(desk, 2, 10000, 10000);
                Check.column(desk, 4, 0, 0);
                desk.skip(side, 0, 10, 0, 0);
                Check.lines(desk, 2);
                Check.column(desk, 2, 100, 51);
                desk.skip(1 - side, 0, 1, order, 0);
                Check.lines(desk, 2);
                Check.column(desk, 2, 0, 0);
            }
        }
    }

    private static void noSuchSide() {
        for (int side : new int[] {-1, 2, Integer.MIN_VALUE, Integer.MAX_VALUE}) {
            refusedOf(side, 9, 1, 1, 1);
        }
    }

    private static void width() {
        taken(MAX, 0, 0, 0);
        taken(-MAX, 0, 0, 0);
        refused(MAX + 1, 0, 0, 0);
        refused(-MAX - 1, 0, 0, 0);
        refused(Integer.MAX_VALUE, 0, 0, 0);
        refused(Integer.MIN_VALUE, 0, 0, 0);
        LineDesk desk = new LineDesk();
        desk.penalty(10000);
        desk.skip(0, MAX, 0, 0, 0);
        desk.skip(1, MAX, 0, 0, 0);
        Check.lines(desk, 1);
        Check.line(desk, 1, 0, 1, 10000, 3, 2 * MAX);
        desk.skip(1, -MAX, 0, 0, 0);
        Check.lines(desk, 1);
        Check.line(desk, 1, 0, 1, 0, 2, 0);
    }

    private static void stretch() {
        taken(0, 0, 0, 0);
        taken(0, MAX, 0, 0);
        taken(0, MAX, 3, 0);
        refused(9, -1, 0, 9);
        refused(9, MAX + 1, 1, 9);
        refused(9, Integer.MAX_VALUE, 0, 9);
        refused(9, Integer.MIN_VALUE, 0, 9);
        LineDesk desk = new LineDesk();
        desk.penalty(10000);
        desk.measure(1, MAX);
        desk.skip(0, -MAX, MAX, 0, 0);
        desk.skip(1, 0, MAX, 0, 0);
        Check.lines(desk, 1);
        Check.line(desk, 1, 0, 1, 100, 0, 0);
    }

    private static void order() {
        for (int order = 0; order <= 3; order++) {
            taken(0, 1, order, 0);
        }
        for (int order : new int[] {-1, 4, Integer.MIN_VALUE, Integer.MAX_VALUE}) {
            refused(9, 1, order, 9);
            refused(9, 0, order, 9);
        }
    }

    private static void shrink() {
        taken(0, 0, 0, 0);
        taken(0, 0, 0, MAX);
        refused(9, 1, 1, -1);
        refused(9, 1, 1, MAX + 1);
        refused(9, 1, 1, Integer.MAX_VALUE);
        refused(9, 1, 1, Integer.MIN_VALUE);
        LineDesk desk = new LineDesk();
        desk.penalty(10000);
        desk.skip(0, MAX, 0, 0, MAX);
        desk.skip(1, MAX, 0, 0, MAX);
        Check.lines(desk, 1);
        Check.line(desk, 1, 0, 1, 100, 3, 0);
    }

    private static void setAgain() {
        for (int side = 0; side <= 1; side++) {
            LineDesk desk = twoLines();
            desk.skip(side, 5, 6, 1, 7);
            desk.skip(side, 0, 0, 0, 0);
            Check.lines(desk, 2);
            Check.column(desk, 2, 10000, 10000);
            Check.column(desk, 3, 0, 0);
            desk.skip(side, 0, 6, 0, 0);
            desk.skip(side, 11, 0, 2, 0);
            Check.lines(desk, 2);
            Check.column(desk, 4, 1, 3);
        }
    }

    private static void linesStay() {
        LineDesk desk = twoLines();
        Check.lines(desk, 2);
        desk.skip(0, 100, 0, 0, 0);
        Check.column(desk, 4, 0, 0);
    }
}
