/** Promise 10: clear. */
public final class ClearTest {
    public static void main(String[] args) {
        LineDesk desk = new LineDesk();
        desk.clear();
        Check.about(desk, 0, 0, 0, 0, 0, 0);
        desk.rule(2, 20);
        desk.measure(1, 30);
        desk.skip(0, 5, 0, 0, 0);
        desk.box(7);
        desk.glue(1, 2, 3, 4);
        desk.cut(9, 9, 9, 7);
        desk.box(8);
        desk.clear();
        Check.about(desk, 0, 0, 0, 0, 0, 0);
        Check.lines(desk, Check.STATE);
        Check.due("the first box again", desk.box(25), 0);
        Check.lines(desk, 1);
        Check.line(desk, 1, 0, 1, 0, 2, 0);
        Check.about(desk, 1, 1, 400, 0, 0, 1);
        desk.clear();
        Check.line(desk, 1, 0, 1, 0, 2, 0);
        Check.about(desk, 1, 1, 400, 0, 0, 0);
        oldItemsLeaveNothing();
        Check.end();
    }

    /** Items in the places of others have nothing of those. */
    private static void oldItemsLeaveNothing() {
        LineDesk desk = new LineDesk();
        desk.measure(1, 10);
        desk.cut(5, 5, 5, 7);
        desk.penalty(-10000);
        desk.glue(5, 5, 1, 5);
        desk.box(5);
        desk.clear();
        desk.penalty(10000);
        desk.kern(3);
        desk.box(3);
        desk.cut(0, 0, 3, 0);
        Check.lines(desk, 1);
        Check.line(desk, 1, 0, 4, 10000, 0, 0);
    }
}
