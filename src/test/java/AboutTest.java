/** Promise 13: about. */
public final class AboutTest {
    public static void main(String[] args) {
        LineDesk desk = new LineDesk();
        Check.about(desk, 0, 0, 0, 0, 0, 0);
        otherWhats(desk);
        desk.measure(1, 20);
        desk.box(20);
        desk.penalty(-10000);
        desk.box(25);
        desk.penalty(-10000);
        desk.box(27);
        desk.penalty(-10000);
        desk.box(19);
        Check.about(desk, 0, 0, 0, 0, 0, 7);
        Check.lines(desk, 4);
        Check.about(desk, 3, 4, 100 + 3 * 100000000 + 10000, 12, 3, 7);
        otherWhats(desk);
        desk.rule(1, 10000);
        desk.rule(2, 0);
        desk.box(1);
        Check.about(desk, 3, 4, 100 + 3 * 100000000 + 10000, 12, 3, 8);
        Check.lines(desk, 4);
        Check.about(desk, 3, 4, 200000000, 12, 0, 8);
        aboveToleranceInPassOne();
        Check.end();
    }

    private static void otherWhats(LineDesk desk) {
        for (int what : new int[] {-1, 6, 7, Integer.MIN_VALUE, Integer.MAX_VALUE}) {
            Check.due("about(" + what + ")", desk.about(what), 0);
        }
    }

    private static void aboveToleranceInPassOne() {
        LineDesk desk = new LineDesk();
        desk.rule(1, 99);
        desk.measure(1, 297);
        desk.glue(0, 297, 0, 0);
        Check.lines(desk, 1);
        Check.about(desk, 1, 1, 110 * 110 + 10000, 0, 1, 1);
    }
}
