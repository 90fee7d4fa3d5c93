/** Promise 4: skip. */
public final class SkipTest {
    private static final int MAX = 1073741823;

    public static void main(String[] args) {
        bounds();
        countsInEachLine();
        orders();
        refusedChangesNothing();
        Check.end();
    }

    private static void bounds() {
        LineDesk desk = new LineDesk();
        for (int side = 0; side <= 1; side++) {
            Check.due("most", desk.skip(side, MAX, MAX, 3, MAX), true);
            Check.due("least", desk.skip(side, -MAX, 0, 0, 0), true);
            Check.due("too wide", desk.skip(side, MAX + 1, 0, 0, 0), false);
            Check.due("too narrow", desk.skip(side, -MAX - 1, 0, 0, 0), false);
            Check.due("stretch below 0", desk.skip(side, 0, -1, 0, 0), false);
            Check.due("too much stretch", desk.skip(side, 0, MAX + 1, 0, 0), false);
            Check.due("order below 0", desk.skip(side, 0, 0, -1, 0), false);
            Check.due("no such order", desk.skip(side, 0, 0, 4, 0), false);
            Check.due("shrink below 0", desk.skip(side, 0, 0, 0, -1), false);
            Check.due("too much shrink", desk.skip(side, 0, 0, 0, MAX + 1), false);
        }
        Check.due("side -1", desk.skip(-1, 0, 0, 0, 0), false);
        Check.due("side 2", desk.skip(2, 0, 0, 0, 0), false);
    }

    private static LineDesk twoLines() {
        LineDesk desk = new LineDesk();
        desk.measure(1, 20);
        desk.box(10);
        desk.penalty(-10000);
        desk.box(12);
        return desk;
    }

    private static void countsInEachLine() {
        LineDesk desk = twoLines();
        desk.skip(0, 11, 0, 0, 0);
        desk.skip(1, 3, 0, 0, 1);
        Check.lines(desk, 2);
        Check.line(desk, 1, 0, 1, 10000, 3, 3);
        Check.line(desk, 2, 2, 3, 10000, 3, 5);
        desk.skip(0, 0, 5, 0, 0);
        Check.lines(desk, 2);
        Check.line(desk, 1, 0, 1, 273, 0, 0);
        Check.line(desk, 2, 2, 3, 100, 0, 0);
        desk.skip(1, 3, 5, 0, 0);
        Check.lines(desk, 2);
        Check.line(desk, 1, 0, 1, 34, 1, 0);
        Check.line(desk, 2, 2, 3, 12, 2, 0);
    }

    private static void orders() {
        for (int order = 1; order <= 3; order++) {
            for (int side = 0; side <= 1; side++) {
                LineDesk desk = twoLines();
                desk.skip(side, 1, 1, order, 0);
                Check.lines(desk, 2);
                Check.line(desk, 1, 0, 1, 0, 2, 0);
                Check.line(desk, 2, 2, 3, 0, 2, 0);
                desk.skip(side, 1, 0, order, 0);
                Check.lines(desk, 2);
                Check.line(desk, 1, 0, 1, 10000, 0, 0);
            }
        }
    }

    private static void refusedChangesNothing() {
        LineDesk desk = twoLines();
        desk.skip(0, 10, 0, 0, 0);
        desk.skip(0, 1, 1, 4, 1);
        desk.skip(0, 1, 1, 0, -1);
        desk.skip(2, 1, 1, 1, 1);
        Check.lines(desk, 2);
        Check.line(desk, 1, 0, 1, 0, 2, 0);
        Check.line(desk, 2, 2, 3, 10000, 3, 2);
    }
}
