/** Promise 13: about. */
public final class AboutTest {
    public static void main(String[] args) {
        Check.sentence("what 0 the pass (0 before any)", AboutTest::pass);
        Check.sentence("1 how many lines", AboutTest::lineCount);
        Check.sentence("2 its demerits together", AboutTest::demerits);
        Check.sentence("3 what sticks out together", AboutTest::out);
        Check.sentence("4 how many lines have a badness above TOLERANCE", AboutTest::aboveTolerance);
        Check.sentence("4 in pass 1, too", AboutTest::aboveToleranceInPassOne);
        Check.sentence("5: how many items there are now", AboutTest::items);
        Check.sentence("Of the way made last", AboutTest::madeLast);
        Check.sentence("0 for another what", AboutTest::otherWhats);
        Check.end();
    }

    /** One line of badness 100. */
    private static LineDesk hundred() {
        LineDesk desk = new LineDesk();
        desk.measure(1, 297);
        desk.glue(0, 297, 0, 0);
        return desk;
    }

    private static void pass() {
        LineDesk desk = hundred();
        Check.due("before any", desk.about(0), 0);
        Check.lines(desk, 1);
        Check.due("pass", desk.about(0), 1);
        desk.rule(0, 99);
        Check.due("pass, before it is made again", desk.about(0), 1);
        Check.lines(desk, 1);
        Check.due("pass", desk.about(0), 2);
        desk.rule(1, 99);
        Check.lines(desk, 1);
        Check.due("pass", desk.about(0), 3);
        desk.clear();
        Check.lines(desk, Check.STATE);
        Check.due("pass", desk.about(0), 3);
    }

    private static void lineCount() {
        LineDesk desk = new LineDesk();
        Check.due("before any", desk.about(1), 0);
        for (int count = 1; count <= 400; count++) {
            if (count > 1) {
                desk.penalty(-10000);
            } else {
                desk.box(0);
            }
            if (count % 80 == 0 || count < 4) {
                Check.lines(desk, count);
                Check.due("lines", desk.about(1), count);
            }
        }
        desk.clear();
        desk.box(0);
        Check.lines(desk, 1);
        Check.due("lines", desk.about(1), 1);
    }

    private static void demerits() {
        LineDesk desk = hundred();
        Check.due("before any", desk.about(2), 0);
        Check.lines(desk, 1);
        Check.due("demerits", desk.about(2), 110 * 110 + 10000);
        Check.lines(desk, 1);
        Check.due("demerits again", desk.about(2), 110 * 110 + 10000);
        desk.rule(5, -1000000000);
        Check.lines(desk, 1);
        Check.due("demerits below 0", desk.about(2), 110 * 110 - 1000000000);
    }

    private static LineDesk threeStickOut() {
        LineDesk desk = new LineDesk();
        desk.measure(1, 20);
        for (int width : new int[] {20, 25, 27, 21, 19}) {
            if (desk.about(5) > 0) {
                desk.penalty(-10000);
            }
            desk.box(width);
        }
        return desk;
    }

    private static void out() {
        LineDesk desk = threeStickOut();
        Check.due("before any", desk.about(3), 0);
        Check.lines(desk, 5);
        Check.due("what sticks out", desk.about(3), 5 + 7 + 1);
        Check.lines(desk, 5);
        Check.due("what sticks out", desk.about(3), 5 + 7 + 1);
        desk.measure(1, 1000);
        Check.lines(desk, 5);
        Check.due("what sticks out", desk.about(3), 0);
    }

    private static void aboveTolerance() {
        LineDesk desk = threeStickOut();
        Check.due("before any", desk.about(4), 0);
        Check.lines(desk, 5);
        Check.due("above 200", desk.about(4), 4);
        int[][] rows = {{9999, 4}, {10000, 0}, {0, 4}, {-1, 5}};
        for (int[] row : rows) {
            desk.rule(1, row[0]);
            Check.lines(desk, 5);
            Check.due("above " + row[0], desk.about(4), row[1]);
        }
    }

    private static void aboveToleranceInPassOne() {
        LineDesk desk = hundred();
        desk.rule(1, 100);
        Check.lines(desk, 1);
        Check.about(desk, 1, 1, 110 * 110 + 10000, 0, 0, 1);
        desk.rule(1, 99);
        Check.lines(desk, 1);
        Check.about(desk, 1, 1, 110 * 110 + 10000, 0, 1, 1);
        desk.rule(1, -1);
        Check.lines(desk, 1);
        Check.about(desk, 1, 1, 110 * 110 + 10000, 0, 1, 1);
    }

    private static void items() {
        LineDesk desk = new LineDesk();
        Check.due("none", desk.about(5), 0);
        for (int count = 1; count <= 200; count++) {
            Wide.item(desk, "bgkpc".charAt(count % 5));
            Check.due("items", desk.about(5), count);
        }
        desk.box(Check.WIDEST + 1);
        Check.due("items, one being refused", desk.about(5), 200);
        desk.clear();
        Check.due("items, all gone", desk.about(5), 0);
    }

    /** What is made later than the lines changes none of these numbers. */
    private static void madeLast() {
        LineDesk desk = threeStickOut();
        Check.lines(desk, 5);
        long demerits = 100 + 4 * 100000000 + 10000;
        Check.about(desk, 3, 5, demerits, 13, 4, 9);
        desk.rule(1, 10000);
        desk.rule(2, 0);
        desk.measure(1, 7);
        desk.skip(0, 5, 0, 0, 0);
        desk.box(1);
        Check.about(desk, 3, 5, demerits, 13, 4, 10);
        desk.clear();
        Check.about(desk, 3, 5, demerits, 13, 4, 0);
        Check.lines(desk, Check.STATE);
        Check.about(desk, 3, 5, demerits, 13, 4, 0);
        desk.box(2);
        Check.lines(desk, 1);
        Check.about(desk, 1, 1, 0, 0, 0, 1);
    }

    private static void otherWhats() {
        LineDesk[] desks = {new LineDesk(), threeStickOut(), Twins.make()};
        for (LineDesk desk : desks) {
            for (int what : new int[] {-1, 6, 7, Integer.MIN_VALUE, Integer.MAX_VALUE}) {
                Check.due("about(" + what + ")", desk.about(what), 0);
            }
        }
    }
}
