/** Terms: where lines begin, what is in them, and which measure they have. */
public final class WidthsTest {
    public static void main(String[] args) {
        Check.sentence("the first line: from item 0", WidthsTest::firstLine);
        Check.sentence("A line that is not the first one BEGINS, if the break before it is a cut with flag 2, "
            + "at the item behind that", WidthsTest::behindFlagTwo);
        Check.sentence("else at the first box or cut behind it", WidthsTest::firstBoxOrCut);
        Check.sentence("or at its own break, if there is none in front of that", WidthsTest::ownBreak);
        Check.sentence("up to its break (that not counted", WidthsTest::breakIsNotCounted);
        Check.sentence("from where it begins: nothing of the lines before", WidthsTest::nothingOfLinesBefore);
        Check.sentence("a cut has UNCUT; a penalty nothing", WidthsTest::uncutAndPenalty);
        Check.sentence("and of both SKIPS", WidthsTest::skipsOfEmptyLines);
        Check.sentence("also AHEAD of its break, if that is a cut", WidthsTest::ahead);
        Check.sentence("and BEHIND of the break before it, if that is one", WidthsTest::behind);
        Check.sentence("widths are sums far beyond one int", WidthsTest::wideSums);
        Check.sentence("Line k (from 1 on) has the MEASURE k, or the last one there is", WidthsTest::measures);
        Check.end();
    }

    /** A desk of measure 0 on which a line sticks out by its width, if that is above 0. */
    private static LineDesk narrow() {
        LineDesk desk = new LineDesk();
        desk.rule(3, -10000);
        desk.rule(4, -10000);
        return desk;
    }

    private static void firstLine() {
        LineDesk desk = narrow();
        desk.glue(1, 0, 0, 0);
        desk.kern(2);
        desk.penalty(10000);
        desk.kern(4);
        desk.box(8);
        Check.lines(desk, 1);
        Check.line(desk, 1, 0, 5, 10000, 3, 15);
        desk.clear();
        desk.penalty(-10000);
        Check.lines(desk, 2);
        Check.line(desk, 1, 0, 0, 0, 2, 0);
    }

    private static void behindFlagTwo() {
        for (int flags = 0; flags <= 3; flags++) {
            LineDesk desk = narrow();
            desk.cut(0, 0, 64, flags);
            desk.glue(1, 0, 0, 0);
            desk.kern(2);
            desk.box(4);
            desk.rule(8, -10000);
            Check.lines(desk, 2);
            if (flags >= 2) {
                Check.line(desk, 2, 1, 4, 10000, 3, 7);
            } else {
                Check.line(desk, 2, 3, 4, 10000, 3, 4);
            }
        }
        LineDesk desk = narrow();
        desk.cut(0, 0, 0, 2);
        Check.lines(desk, 2);
        Check.line(desk, 2, 1, 1, 0, 2, 0);
        desk.cut(0, 0, 5, 2);
        Check.lines(desk, 3);
        Check.line(desk, 2, 1, 1, 0, 2, 0);
    }

    private static void firstBoxOrCut() {
        for (char first : "bc".toCharArray()) {
            LineDesk desk = narrow();
            desk.penalty(-10000);
            desk.glue(1, 0, 0, 0);
            desk.kern(2);
            desk.penalty(10000);
            if (first == 'b') {
                desk.box(16);
            } else {
                desk.rule(0, 10000);
                desk.measure(1, 1000);
                desk.cut(0, 0, 16, 4);
            }
            desk.kern(32);
            Check.lines(desk, 2);
            Check.column(desk, 0, 0, 4);
        }
    }

    private static void ownBreak() {
        LineDesk desk = narrow();
        desk.penalty(-10000);
        desk.kern(5);
        Check.lines(desk, 2);
        Check.line(desk, 2, 2, 2, 0, 2, 0);
        desk.penalty(-10000);
        desk.glue(5, 0, 0, 0);
        desk.cut(0, 0, 7, 0);
        desk.box(9);
        Check.lines(desk, 4);
        Check.line(desk, 2, 2, 2, 0, 2, 0);
        Check.line(desk, 3, 4, 4, 0, 2, 0);
        Check.line(desk, 4, 5, 6, 10000, 3, 9);
        desk.clear();
        desk.box(5);
        desk.penalty(-10000);
        Check.lines(desk, 2);
        Check.line(desk, 2, 2, 2, 0, 2, 0);
    }

    private static void breakIsNotCounted() {
        LineDesk desk = new LineDesk();
        desk.measure(1, 10);
        desk.box(10);
        desk.glue(50, 7, 1, 7);
        desk.box(10);
        desk.kern(60);
        desk.glue(50, 7, 1, 7);
        desk.box(9);
        Check.lines(desk, 3);
        Check.line(desk, 1, 0, 1, 0, 2, 0);
        Check.line(desk, 2, 2, 3, 0, 2, 0);
        Check.line(desk, 3, 5, 6, 10000, 0, 0);
    }

    /** Each line has less than the one before it, of all that a line has. */
    private static void nothingOfLinesBefore() {
        LineDesk desk = new LineDesk();
        int[] orders = {0, 1, 2, 3};
        for (int order : orders) {
            desk.clear();
            desk.measure(1, 10);
            desk.box(0);
            desk.glue(0, 30, order, 30);
            desk.penalty(-10000);
            desk.box(0);
            desk.glue(0, 10, order, 10);
            desk.penalty(-10000);
            desk.box(0);
            Check.lines(desk, 3);
            Check.column(desk, 2, order == 0 ? 4 : 0, order == 0 ? 100 : 0, 10000);
            desk.measure(1, -10);
            Check.lines(desk, 3);
            Check.column(desk, 2, 4, 100, 10000);
            Check.column(desk, 4, 0, 0, 10);
        }
    }

    private static void uncutAndPenalty() {
        LineDesk desk = new LineDesk();
        desk.rule(8, -10000);
        desk.measure(1, 10);
        desk.box(5);
        desk.penalty(9999);
        desk.cut(1000, 1000, 3, 7);
        desk.penalty(10000);
        desk.cut(1000, 1000, 4, 1);
        desk.penalty(9999);
        Check.lines(desk, 1);
        Check.line(desk, 1, 0, 6, 10000, 3, 2);
    }

    private static void skipsOfEmptyLines() {
        LineDesk desk = narrow();
        desk.skip(0, 3, 0, 0, 1);
        desk.skip(1, 40, 0, 0, 2);
        desk.penalty(-10000);
        Check.lines(desk, 2);
        Check.line(desk, 1, 0, 0, 10000, 3, 40);
        Check.line(desk, 2, 1, 1, 10000, 3, 40);
        desk.skip(0, -3, 8, 0, 0);
        desk.skip(1, -5, 0, 0, 0);
        Check.lines(desk, 2);
        Check.line(desk, 1, 0, 0, 100, 0, 0);
        Check.line(desk, 2, 1, 1, 100, 0, 0);
    }

    /** With flag 1 and without it. */
    private static void ahead() {
        for (int flags = 0; flags <= 7; flags++) {
            LineDesk desk = narrow();
            desk.rule(0, -1);
            desk.box(100);
            desk.cut(20, 0, 5000, flags);
            desk.box(300);
            Check.lines(desk, 2);
            Check.column(desk, 4, 120, 300);
        }
    }

    /** With flag 2 and without it; and also if the line has nothing else. */
    private static void behind() {
        for (int flags = 0; flags <= 7; flags++) {
            LineDesk desk = narrow();
            desk.rule(0, -1);
            desk.box(100);
            desk.cut(0, 30, 5000, flags);
            desk.box(300);
            desk.cut(0, 31, 5000, flags);
            Check.lines(desk, 3);
            Check.column(desk, 4, 100, 330, 31);
        }
    }

    private static void wideSums() {
        LineDesk desk = narrow();
        for (int i = 0; i < 5; i++) {
            desk.box(Check.WIDEST);
        }
        Check.lines(desk, 1);
        Check.line(desk, 1, 0, 5, 10000, 3, 2147483647);
        Check.due("what sticks out", desk.about(3), 5L * Check.WIDEST);
        desk.penalty(10000);
        for (int i = 0; i < 5; i++) {
            desk.glue(0, 0, 0, Check.WIDEST);
        }
        Check.lines(desk, 1);
        Check.about(desk, 1, 1);
        Check.line(desk, 1, 0, 11, 100, 3, 0);
        desk.clear();
        desk.measure(1, Check.WIDEST);
        for (int i = 0; i < 4; i++) {
            desk.kern(-Check.WIDEST);
            desk.penalty(10000);
            desk.glue(0, Check.WIDEST, 0, 0);
        }
        desk.kern(-Check.WIDEST);
        Check.lines(desk, 1);
        Check.line(desk, 1, 0, 13, 336, 0, 0);
    }

    private static void measures() {
        LineDesk desk = narrow();
        desk.measure(1, 1);
        desk.measure(2, 20);
        desk.measure(3, 300);
        for (int k = 1; k <= 5; k++) {
            desk.box(1000);
            desk.penalty(-10000);
        }
        Check.lines(desk, 6);
        Check.column(desk, 4, 999, 980, 700, 700, 700, 0);
        desk.measure(1, -1);
        Check.lines(desk, 6);
        Check.column(desk, 4, 1001, 1001, 1001, 1001, 1001, 1);
        desk.clear();
        desk.box(1);
        desk.measure(2, 5000);
        Check.lines(desk, 1);
        Check.column(desk, 4, 2);
    }
}
