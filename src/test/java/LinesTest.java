/** Promise 11: lines; which way it is stands in the tests of the terms. */
public final class LinesTest {
    public static void main(String[] args) {
        Check.sentence("Makes lines of the items: how many", LinesTest::howMany);
        Check.sentence("Makes lines of the items: they stay, and more may come", LinesTest::itemsStay);
        Check.sentence("IllegalStateException if there are none", LinesTest::noItems);
        Check.sentence("or more than 400 breaks", LinesTest::mostBreaks);
        Check.sentence("END counts", LinesTest::endCounts);
        Check.sentence("automatic cuts, too", LinesTest::automaticCutsCount);
        Check.sentence("what is no break does not count", LinesTest::othersDoNotCount);
        Check.sentence("the lines before stay then (no items)", LinesTest::linesStayWithoutItems);
        Check.sentence("the lines before stay then (too many breaks)", LinesTest::linesStayWithTooMany);
        Check.sentence("the lines before stay then (there were none)", LinesTest::noLinesStay);
        Check.sentence("the last measure told once or many times", LinesTest::lastMeasureManyTimes);
        Check.sentence("400 breaks in pass 3, with and without a LOOSENESS", LinesTest::longParagraph);
        Check.end();
    }

    private static void howMany() {
        for (int count = 1; count <= 20; count++) {
            LineDesk desk = new LineDesk();
            desk.box(0);
            for (int i = 1; i < count; i++) {
                desk.penalty(-10000);
            }
            Check.lines(desk, count);
            Check.due("about(1)", desk.about(1), count);
        }
    }

    private static void itemsStay() {
        LineDesk desk = new LineDesk();
        desk.box(5);
        for (int again = 0; again < 3; again++) {
            Check.lines(desk, 1);
            Check.line(desk, 1, 0, 1, 10000, 3, 5);
            Check.about(desk, 3, 1, 100000000, 5, 1, 1);
        }
        Check.due("penalty", desk.penalty(-10000), 1);
        Check.lines(desk, 2);
        Check.column(desk, 1, 1, 2);
    }

    private static void noItems() {
        LineDesk desk = new LineDesk();
        Check.lines(desk, Check.STATE);
        Check.lines(desk, Check.STATE);
        desk.penalty(10000);
        Check.lines(desk, 1);
        Check.line(desk, 1, 0, 1, 0, 2, 0);
        desk.clear();
        Check.lines(desk, Check.STATE);
        desk.box(Check.WIDEST + 1);
        Check.lines(desk, Check.STATE);
    }

    private static void mostBreaks() {
        LineDesk desk = new LineDesk();
        for (int i = 0; i < 398; i++) {
            desk.penalty(-10000);
        }
        Check.lines(desk, 399);
        desk.penalty(-10000);
        Check.lines(desk, 400);
        Check.line(desk, 400, 399, 399, 0, 2, 0);
        Check.about(desk, 1, 400, 40000, 0, 0, 399);
        desk.penalty(-10000);
        Check.lines(desk, Check.STATE);
        desk.penalty(-10000);
        Check.lines(desk, Check.STATE);
        desk.clear();
        desk.penalty(-10000);
        Check.lines(desk, 2);
    }

    /** 399 breaks of each kind are taken with END, and one more of any kind is not. */
    private static void endCounts() {
        for (char kind : "gkpc".toCharArray()) {
            LineDesk desk = new LineDesk();
            for (int i = 0; i < 100; i++) {
                addBreak(desk, kind);
            }
            for (int i = 0; i < 299; i++) {
                desk.penalty(9999);
            }
            Check.due("lines() is taken", Check.answer(desk::lines) > 0, true);
            addBreak(desk, kind);
            Check.lines(desk, Check.STATE);
        }
    }

    /** A glue, kern, penalty or cut that is a break; at most two calls and no other break. */
    private static void addBreak(LineDesk desk, char kind) {
        switch (kind) {
            case 'g' -> Wide.items(desk, "bg");
            case 'k' -> Wide.items(desk, "kg");
            case 'p' -> desk.penalty(0);
            default -> desk.cut(0, 0, 0, 0);
        }
    }

    /** Also in pass 1, in which they are no breaks. */
    private static void automaticCutsCount() {
        LineDesk desk = new LineDesk();
        for (int i = 0; i < 399; i++) {
            desk.cut(0, 0, 0, 4 + i % 4);
        }
        Check.lines(desk, 1);
        Check.about(desk, 1, 1, 100, 0, 0, 399);
        desk.cut(0, 0, 0, 4);
        Check.lines(desk, Check.STATE);
        Check.about(desk, 1, 1, 100, 0, 0, 400);
    }

    private static void othersDoNotCount() {
        LineDesk desk = new LineDesk();
        for (int i = 0; i < 399; i++) {
            desk.penalty(-10000);
        }
        desk.penalty(10000);
        desk.penalty(Integer.MAX_VALUE);
        desk.glue(0, 0, 0, 0);
        desk.box(0);
        desk.kern(0);
        desk.kern(0);
        Check.lines(desk, 400);
        desk.glue(0, 0, 0, 0);
        Check.lines(desk, Check.STATE);
    }

    private static LineDesk twoLines() {
        LineDesk desk = new LineDesk();
        desk.measure(1, 9);
        desk.box(9);
        desk.penalty(-10000);
        desk.box(11);
        Check.lines(desk, 2);
        return desk;
    }

    private static void checkTwoLines(LineDesk desk, int items) {
        Check.lines(desk, Check.STATE);
        Check.line(desk, 1, 0, 1, 0, 2, 0);
        Check.line(desk, 2, 2, 3, 10000, 3, 2);
        Check.due("line 3", Check.answer(() -> desk.line(3, 0)), Check.INDEX);
        Check.about(desk, 3, 2, 100 + 100000000, 2, 1, items);
    }

    private static void linesStayWithoutItems() {
        LineDesk desk = twoLines();
        desk.clear();
        checkTwoLines(desk, 0);
        desk.measure(1, 100);
        desk.rule(1, 10000);
        checkTwoLines(desk, 0);
        desk.box(100);
        Check.lines(desk, 1);
        Check.about(desk, 1, 1, 100, 0, 0, 1);
    }

    private static void linesStayWithTooMany() {
        LineDesk desk = twoLines();
        for (int i = 0; i < 399; i++) {
            desk.penalty(0);
        }
        checkTwoLines(desk, 402);
        desk.measure(1, 100);
        checkTwoLines(desk, 402);
    }

    private static void noLinesStay() {
        LineDesk desk = new LineDesk();
        Check.lines(desk, Check.STATE);
        Check.about(desk, 0, 0, 0, 0, 0, 0);
        for (int i = 0; i < 400; i++) {
            desk.penalty(0);
        }
        Check.lines(desk, Check.STATE);
        Check.about(desk, 0, 0, 0, 0, 0, 400);
        Check.due("line 1", Check.answer(() -> desk.line(1, 0)), Check.INDEX);
    }

    /** The last measure once or 100 times more: the same lines, though the search goes other ways. */
    private static void lastMeasureManyTimes() {
        for (int tolerance = -1; tolerance <= 1400; tolerance += 200) {
            LineDesk few = paragraph(2, tolerance);
            LineDesk many = paragraph(100, tolerance);
            Check.lines(few, Check.answer(many::lines));
            Check.due("same way", sum(few), sum(many));
        }
    }

    private static LineDesk paragraph(int measures, int tolerance) {
        LineDesk desk = new LineDesk();
        desk.rule(1, tolerance);
        for (int k = 1; k <= measures; k++) {
            desk.measure(k, k == 1 ? 70 : 61);
        }
        for (int i = 0; i < 90; i++) {
            fill(desk, i);
        }
        return desk;
    }

    private static void fill(LineDesk desk, int i) {
        desk.box(3 + i * 7 % 11);
        if (i % 4 == 1) {
            desk.cut(2, 0, 0, 5);
            desk.box(2 + i % 5);
        }
        desk.glue(3, 2, 0, 1);
    }

    private static long sum(LineDesk desk) {
        long sum = 0;
        for (int k = 1; k <= desk.about(1); k++) {
            for (int what = 0; what <= 4; what++) {
                sum = sum * 31 + desk.line(k, what);
            }
        }
        for (int what = 0; what <= 4; what++) {
            sum = sum * 31 + desk.about(what);
        }
        return sum;
    }

    /** The cut at a line's end is in no line, so 37 lines are the fewest that fit. */
    private static void longParagraph() {
        LineDesk desk = new LineDesk();
        desk.rule(1, -1);
        desk.rule(0, -1);
        desk.measure(1, 100);
        for (int i = 0; i < 399; i++) {
            desk.cut(0, 0, 10, 0);
        }
        Check.lines(desk, 37);
        Check.about(desk, 3, 37);
        for (int q = -3; q <= 3; q += 3) {
            desk.rule(8, q);
            Check.lines(desk, 37 + q);
        }
        desk.rule(8, 10000);
        Check.lines(desk, 400);
        desk.rule(8, -10000);
        Check.lines(desk, 1);
        Check.line(desk, 1, 0, 399, 10000, 3, 3890);
    }
}
