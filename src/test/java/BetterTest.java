/** Terms: which of two ways is the better one; each step in turn, against all steps behind it. */
public final class BetterTest {
    /** How often the measure is told: lines behind the last one are looked for in another way. */
    private static int measures;

    public static void main(String[] args) {
        for (measures = 1; measures <= 4; measures++) {
            allSteps();
        }
        Check.end();
    }

    private static void allSteps() {
        Check.sentence("what sticks out together is less", BetterTest::lessSticksOut);
        Check.sentence("fewer lines have a badness above TOLERANCE, in pass 3", BetterTest::fewerAboveTolerance);
        Check.sentence("in pass 3, else this is not looked at", BetterTest::onlyInPassThree);
        Check.sentence("its demerits together are less", BetterTest::lessDemerits);
        Check.sentence("it has fewer lines", BetterTest::fewerLines);
        Check.sentence("the class of its last line is lower", BetterTest::lowerLastClass);
        Check.sentence("the break before its last line is lower", BetterTest::lowerLastBreak);
        Check.sentence("the break is looked at before the class of the line before it", BetterTest::breakBeforeClass);
        Check.sentence("the class of the line before that is lower", BetterTest::lowerClassBefore);
        Check.sentence("and so on to the front (the break before that line)", BetterTest::lowerBreakBefore);
        Check.sentence("and so on to the front (that break before the class before it)",
            BetterTest::breakBeforeClassBefore);
        Check.sentence("The BEST way is better than all others", BetterTest::manyEqualWays);
    }

    private static LineDesk ofMeasure(int width) {
        LineDesk desk = new LineDesk();
        for (int k = 1; k <= measures; k++) {
            desk.measure(k, width);
        }
        return desk;
    }

    /** Less sticks out with more lines, more of them above TOLERANCE, and more demerits. */
    private static void lessSticksOut() {
        LineDesk desk = ofMeasure(10);
        desk.box(11);
        desk.penalty(9999);
        desk.box(1);
        desk.kern(1);
        desk.box(9);
        Check.lines(desk, 2);
        Check.about(desk, 3, 2, 200000000 + 99980001, 2, 2);
        desk.rule(8, -1);
        Check.lines(desk, 1);
        Check.about(desk, 3, 1, 100000000, 12, 1);
        desk.rule(8, 0);
        desk.clear();
        desk.box(12);
        desk.cut(0, 0, -1, 1);
        desk.box(0);
        Check.lines(desk, 1);
        Check.about(desk, 3, 1, 100000000, 1, 1);
        desk.clear();
        desk.box(12);
        desk.cut(-1, 0, 0, 1);
        desk.box(0);
        Check.lines(desk, 2);
        Check.due("what sticks out", desk.about(3), 1);
    }

    /**
     * Two lines of badness 0 and 31 by the first cut, of 5 and 5 by the second one: one line above
     * TOLERANCE 0, or two with less demerits. One line sticks out, three have a very bad one.
     */
    private static LineDesk oneBadOrTwoFair() {
        LineDesk desk = ofMeasure(297);
        desk.rule(1, 0);
        desk.rule(4, 0);
        desk.rule(5, 0);
        desk.rule(7, 0);
        desk.skip(0, 0, 297, 0, 0);
        desk.cut(297, -403, 500, 0);
        desk.cut(-313, 187, 500, 0);
        return desk;
    }

    private static void fewerAboveTolerance() {
        LineDesk desk = oneBadOrTwoFair();
        desk.rule(0, -1);
        Check.lines(desk, 2);
        Check.column(desk, 2, 0, 31);
        Check.about(desk, 3, 2, 100 + 41 * 41, 0, 1);
    }

    private static void onlyInPassThree() {
        LineDesk desk = oneBadOrTwoFair();
        Check.lines(desk, 2);
        Check.column(desk, 2, 5, 5);
        Check.about(desk, 1, 2, 2 * 225, 0, 2);
    }

    /**
     * A desk on which a line of width 0, 297 or 594 has the same demerits, 2500: its class is 0, 2
     * or 3, its badness 100, 0 or 100. A wider one sticks out.
     */
    private static LineDesk equal() {
        LineDesk desk = ofMeasure(297);
        desk.rule(2, -50);
        desk.rule(4, 0);
        desk.rule(5, 0);
        desk.rule(7, 0);
        desk.skip(1, 0, 297, 0, 297);
        return desk;
    }

    private static void lessDemerits() {
        LineDesk desk = equal();
        desk.box(297);
        desk.penalty(-51);
        desk.box(0);
        Check.lines(desk, 2);
        Check.about(desk, 1, 2, 5000 - 2601);
    }

    private static void fewerLines() {
        LineDesk desk = equal();
        desk.box(297);
        desk.penalty(-50);
        desk.box(0);
        Check.lines(desk, 1);
        Check.about(desk, 1, 1, 2500);
        Check.column(desk, 3, 2);
    }

    /** Widths 297 and 594, or 594 and 297. */
    private static void classDiffers(LineDesk desk) {
        desk.box(297);
        desk.penalty(0);
        desk.box(297);
        desk.penalty(0);
        desk.box(297);
    }

    private static void lowerLastClass() {
        LineDesk desk = equal();
        classDiffers(desk);
        Check.lines(desk, 2);
        Check.about(desk, 1, 2, 5000);
        Check.column(desk, 1, 3, 5);
        Check.column(desk, 3, 3, 2);
    }

    /** Widths 297 and 594 both times. */
    private static void onlyBreakDiffers(LineDesk desk) {
        desk.box(297);
        desk.penalty(0);
        desk.box(0);
        desk.penalty(0);
        desk.box(594);
    }

    private static void lowerLastBreak() {
        LineDesk desk = equal();
        onlyBreakDiffers(desk);
        Check.lines(desk, 2);
        Check.about(desk, 1, 2, 5000);
        Check.column(desk, 1, 1, 5);
        Check.column(desk, 3, 2, 3);
    }

    /** Widths 594 and 594 with the lower break, 297 and 594 with the higher one. */
    private static void firstClassDiffers(LineDesk desk) {
        desk.box(0);
        desk.cut(594, 0, 297, 0);
        desk.box(0);
        desk.penalty(0);
        desk.box(594);
    }

    private static void breakBeforeClass() {
        LineDesk desk = equal();
        firstClassDiffers(desk);
        Check.lines(desk, 2);
        Check.about(desk, 1, 2, 5000);
        Check.column(desk, 1, 1, 5);
        Check.column(desk, 3, 3, 3);
    }

    private static void oneLineMore(LineDesk desk) {
        desk.penalty(-10000);
        desk.box(297);
        Check.lines(desk, 3);
        Check.about(desk, 1, 3, 7500);
    }

    private static void lowerClassBefore() {
        LineDesk desk = equal();
        classDiffers(desk);
        oneLineMore(desk);
        Check.column(desk, 1, 3, 5, 7);
        Check.column(desk, 3, 3, 2, 2);
    }

    private static void lowerBreakBefore() {
        LineDesk desk = equal();
        onlyBreakDiffers(desk);
        oneLineMore(desk);
        Check.column(desk, 1, 1, 5, 7);
    }

    private static void breakBeforeClassBefore() {
        LineDesk desk = equal();
        firstClassDiffers(desk);
        oneLineMore(desk);
        Check.column(desk, 1, 1, 5, 7);
        Check.column(desk, 3, 3, 3, 2);
    }

    /** Nothing tells the ways apart but their breaks: of each number of lines the lowest ones. */
    private static void manyEqualWays() {
        LineDesk desk = Wide.desk();
        for (int i = 0; i < 6; i++) {
            desk.penalty(0);
        }
        for (int q = 0; q <= 6; q++) {
            desk.rule(8, q);
            int[] breaks = new int[q + 1];
            for (int k = 0; k < q; k++) {
                breaks[k] = k;
            }
            breaks[q] = 6;
            Check.lines(desk, q + 1);
            Check.column(desk, 1, breaks);
        }
    }
}
