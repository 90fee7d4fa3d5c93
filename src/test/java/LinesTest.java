/** Promise 11: lines, and the ways that the terms tell apart. */
public final class LinesTest {
    public static void main(String[] args) {
        none();
        mostBreaks();
        automaticCutsCount();
        linesBeforeStay();
        ladderOfBadness();
        classes();
        passes();
        lessSticksOutFirst();
        fewerAboveTolerance();
        fewerLines();
        lowerClassThenLowerBreak();
        lastMeasureManyTimes();
        longParagraph();
        Check.end();
    }

    private static void none() {
        LineDesk desk = new LineDesk();
        Check.lines(desk, Check.STATE);
        desk.penalty(10000);
        Check.lines(desk, 1);
        Check.line(desk, 1, 0, 1, 0, 2, 0);
    }

    private static void mostBreaks() {
        LineDesk desk = new LineDesk();
        for (int i = 0; i < 399; i++) {
            desk.penalty(-10000);
        }
        Check.lines(desk, 400);
        for (int k = 1; k <= 400; k++) {
            Check.line(desk, k, k == 1 ? 0 : k - 1, k - 1, 0, 2, 0);
        }
        Check.about(desk, 1, 400, 40000, 0, 0, 399);
        desk.box(1);
        desk.penalty(10000);
        Check.lines(desk, 400);
        desk.penalty(9999);
        Check.lines(desk, Check.STATE);
        Check.about(desk, 3, 400, 39900 + 100000000, 1, 1, 402);
        desk.clear();
        Check.lines(desk, Check.STATE);
        desk.box(0);
        Check.lines(desk, 1);
    }

    /** Also in pass 1, in which they are no breaks. */
    private static void automaticCutsCount() {
        LineDesk desk = new LineDesk();
        for (int i = 0; i < 399; i++) {
            desk.cut(0, 0, 0, 4);
        }
        Check.lines(desk, 1);
        Check.about(desk, 1, 1, 100, 0, 0, 399);
        desk.cut(0, 0, 0, 4);
        Check.lines(desk, Check.STATE);
        Check.about(desk, 1, 1, 100, 0, 0, 400);
    }

    private static void linesBeforeStay() {
        LineDesk desk = new LineDesk();
        desk.measure(1, 9);
        desk.box(9);
        desk.penalty(-10000);
        desk.box(11);
        Check.lines(desk, 2);
        desk.clear();
        Check.lines(desk, Check.STATE);
        Check.line(desk, 1, 0, 1, 0, 2, 0);
        Check.line(desk, 2, 2, 3, 10000, 3, 2);
        Check.about(desk, 3, 2, 100 + 100000000, 2, 1, 0);
    }

    private static LineDesk stretched(int excess, int stretch) {
        LineDesk desk = new LineDesk();
        desk.measure(1, excess);
        desk.glue(0, stretch, 0, 0);
        Check.lines(desk, 1);
        return desk;
    }

    private static void ladderOfBadness() {
        int[][] rows = {
            {0, 0, 0, 2}, {0, 297, 0, 2}, {1, 0, 10000, 0}, {50, 297, 0, 2}, {51, 297, 1, 2},
            {148, 297, 12, 2}, {149, 297, 13, 1}, {150, 297, 13, 1}, {296, 297, 99, 1}, {297, 297, 100, 0},
            {1290, 297, 8189, 0}, {1291, 297, 10000, 0}, {1, 1073741823, 0, 2}, {1073741823, 1, 10000, 0},
            {12909, 2972, 8189, 0}, {1073741823, 1073741823, 100, 0}};
        for (int[] row : rows) {
            LineDesk desk = stretched(row[0], row[1]);
            Check.line(desk, 1, 0, 1, row[2], row[3], 0);
        }
    }

    private static void classes() {
        int[][] rows = {{0, 297, 0, 2, 0}, {148, 297, 12, 2, 0}, {149, 297, 13, 3, 0}, {297, 297, 100, 3, 0},
            {298, 297, 10000, 3, 1}, {1, 0, 10000, 3, 1}};
        for (int[] row : rows) {
            LineDesk desk = new LineDesk();
            desk.measure(1, -row[0]);
            desk.glue(0, 5, 1, row[1]);
            Check.lines(desk, 1);
            Check.line(desk, 1, 0, 1, row[2], row[3], row[4]);
        }
    }

    private static void passes() {
        LineDesk desk = new LineDesk();
        desk.measure(1, 10);
        desk.box(10);
        desk.cut(0, 0, 5, 4);
        desk.box(10);
        Check.lines(desk, 2);
        Check.due("pass", desk.about(0), 2);
        desk.rule(0, 10000);
        Check.lines(desk, 2);
        Check.due("what sticks out has no place in pass 1", desk.about(0), 2);
        desk.rule(1, 10000);
        desk.rule(3, 10000);
        desk.clear();
        desk.box(11);
        Check.lines(desk, 1);
        Check.due("what sticks out has no place in pass 2", desk.about(0), 3);
        Check.due("a badness of 10000 is not above 10000", desk.about(4), 0);
    }

    /** Two lines that stick out by 2 together, with worse demerits, against one by 3. */
    private static void lessSticksOutFirst() {
        LineDesk desk = new LineDesk();
        desk.measure(1, 10);
        desk.box(11);
        desk.penalty(9999);
        desk.box(1);
        desk.kern(1);
        desk.box(9);
        Check.lines(desk, 2);
        Check.about(desk, 3, 2, 200000000 + 9999L * 9999, 2, 2);
    }

    /** In pass 3 fewer lines above TOLERANCE go before less demerits. */
    private static void fewerAboveTolerance() {
        LineDesk desk = new LineDesk();
        desk.rule(0, -1);
        desk.rule(1, 0);
        desk.rule(5, 0);
        desk.measure(1, 20);
        desk.box(10);
        desk.penalty(0);
        desk.box(10);
        desk.penalty(9000);
        desk.glue(0, 6, 0, 0);
        desk.box(19);
        Check.lines(desk, 2);
        Check.line(desk, 1, 0, 3);
        Check.about(desk, 3, 2, 100 + 81000000 + 100000000, 0, 1);
    }

    /** All demerits are 0, so each number of lines is as good as another. */
    private static void fewerLines() {
        LineDesk desk = new LineDesk();
        desk.rule(2, 0);
        desk.box(0);
        desk.penalty(0);
        desk.box(0);
        desk.penalty(0);
        desk.box(0);
        Check.lines(desk, 1);
        desk.rule(8, 1);
        Check.lines(desk, 2);
        Check.line(desk, 1, 0, 1);
        desk.rule(8, 2);
        Check.lines(desk, 3);
        desk.rule(8, 0);
        desk.rule(2, 1);
        desk.clear();
        desk.box(0);
        desk.penalty(-1);
        desk.box(0);
        Check.lines(desk, 1);
        Check.about(desk, 1, 1, 1, 0, 0, 3);
    }

    /** Equal demerits: the lower class of the last line, then the lower break before it. */
    private static void lowerClassThenLowerBreak() {
        LineDesk desk = new LineDesk();
        desk.rule(2, 0);
        desk.rule(5, 0);
        desk.rule(0, 10000);
        desk.measure(1, 10);
        desk.box(5);
        desk.glue(0, 0, 0, 0);
        desk.box(5);
        desk.glue(0, 0, 0, 0);
        desk.box(5);
        Check.lines(desk, 2);
        Check.line(desk, 1, 0, 3, 0, 2, 0);
        Check.line(desk, 2, 4, 5, 10000, 0, 0);
        Check.due("demerits", desk.about(2), 100000000);
        desk.clear();
        for (int i = 0; i < 6; i++) {
            desk.box(5);
            desk.penalty(i == 2 ? -10000 : 0);
        }
        Check.lines(desk, 4);
        Check.line(desk, 1, 0, 3);
        Check.line(desk, 3, 6, 9);
        desk.clear();
        desk.measure(1, 15);
        for (int i = 0; i < 4; i++) {
            desk.box(5);
            desk.penalty(i == 3 ? 10000 : 0);
        }
        Check.lines(desk, 2);
        Check.line(desk, 1, 0, 5);
        desk.measure(1, 40);
        desk.rule(8, 1);
        Check.lines(desk, 2);
        Check.line(desk, 1, 0, 1, 10000, 0, 0);
        Check.line(desk, 2, 2, 8, 10000, 0, 0);
        desk.rule(8, 2);
        Check.lines(desk, 3);
        Check.line(desk, 1, 0, 1);
        Check.line(desk, 2, 2, 3);
    }

    /** The last measure once or 200 times more: the same lines, though the search goes other ways. */
    private static void lastMeasureManyTimes() {
        LineDesk few = new LineDesk();
        LineDesk many = new LineDesk();
        few.measure(1, 70);
        few.measure(2, 61);
        many.measure(1, 70);
        for (int k = 2; k <= 200; k++) {
            many.measure(k, 61);
        }
        for (int i = 0; i < 90; i++) {
            fill(few, i);
            fill(many, i);
        }
        for (int tolerance = -1; tolerance <= 1400; tolerance += 200) {
            few.rule(1, tolerance);
            many.rule(1, tolerance);
            Check.lines(few, Check.answer(many::lines));
            Check.due("same way", sum(few), sum(many));
        }
    }

    private static void fill(LineDesk desk, int i) {
        desk.box(3 + i * 7 % 11);
        if (i % 4 == 1) {
            desk.cut(2, 0, 0, 5);
            desk.box(2 + i % 5);
        }
        desk.glue(3, 2, 0, 1);
    }

    private static long sum(LineDesk desk) {
        long sum = 0;
        for (int k = 1; k <= desk.about(1); k++) {
            for (int what = 0; what <= 4; what++) {
                sum = sum * 31 + desk.line(k, what);
            }
        }
        for (int what = 0; what <= 4; what++) {
            sum = sum * 31 + desk.about(what);
        }
        return sum;
    }

    /** 400 breaks in pass 3, with and without a looseness; the cut at a line's end is in no line. */
    private static void longParagraph() {
        LineDesk desk = new LineDesk();
        desk.rule(1, -1);
        desk.rule(0, -1);
        desk.measure(1, 100);
        for (int i = 0; i < 399; i++) {
            desk.cut(0, 0, 10, 0);
        }
        Check.lines(desk, 37);
        Check.about(desk, 3, 37);
        for (int q = -3; q <= 3; q += 3) {
            desk.rule(8, q);
            Check.lines(desk, 37 + q);
        }
        desk.rule(8, 10000);
        Check.lines(desk, 400);
        desk.rule(8, -10000);
        Check.lines(desk, 1);
        Check.line(desk, 1, 0, 399, 10000, 3, 3890);
    }
}
