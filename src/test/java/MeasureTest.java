/** Promise 3: measure. */
public final class MeasureTest {
    public static void main(String[] args) {
        Check.sentence("The measures from the one with number k on are gone, and this is the k-th: true",
            MeasureTest::laterOnesAreGone);
        Check.sentence("false, changing nothing, if k is not 1 .. (too low)", MeasureTest::tooLow);
        Check.sentence("one more than there are", MeasureTest::oneMoreThanThereAre);
        Check.sentence("false, changing nothing, if k is more than one more than there are", MeasureTest::tooHigh);
        Check.sentence("above 256", MeasureTest::above256);
        Check.sentence("above 256: the 256 are left as they were", MeasureTest::fullIsLeftAsItWas);
        Check.sentence("256 measures, each of its own line", MeasureTest::lineOfEachMeasure);
        Check.sentence("or the width out of its bounds", MeasureTest::width);
        Check.sentence("the lines made stay", MeasureTest::linesStay);
        Check.end();
    }

    /** Each forced line sticks out by 1000 less its measure. */
    private static void checkMeasures(LineDesk desk, int... want) {
        desk.clear();
        for (int k = 0; k < want.length; k++) {
            if (k > 0) {
                desk.penalty(-10000);
            }
            desk.box(1000);
        }
        Check.lines(desk, want.length);
        for (int k = 0; k < want.length; k++) {
            Check.due("measure of line " + (k + 1), 1000 - desk.line(k + 1, 4), want[k]);
        }
    }

    private static void laterOnesAreGone() {
        LineDesk desk = new LineDesk();
        checkMeasures(desk, 0, 0, 0);
        Check.due("measure(1, 10)", desk.measure(1, 10), true);
        checkMeasures(desk, 10, 10, 10);
        Check.due("measure(2, 20)", desk.measure(2, 20), true);
        Check.due("measure(3, 30)", desk.measure(3, 30), true);
        Check.due("measure(4, 40)", desk.measure(4, 40), true);
        Check.due("measure(5, 50)", desk.measure(5, 50), true);
        checkMeasures(desk, 10, 20, 30, 40, 50, 50, 50);
        Check.due("measure(5, 55)", desk.measure(5, 55), true);
        checkMeasures(desk, 10, 20, 30, 40, 55, 55);
        Check.due("measure(2, -25)", desk.measure(2, -25), true);
        checkMeasures(desk, 10, -25, -25, -25, -25);
        Check.due("measure(3, 35)", desk.measure(3, 35), true);
        checkMeasures(desk, 10, -25, 35, 35, 35);
        Check.due("measure(1, 11)", desk.measure(1, 11), true);
        checkMeasures(desk, 11, 11, 11, 11);
        Check.due("measure(3, 1)", desk.measure(3, 1), false);
    }

    private static void tooLow() {
        for (int k : new int[] {0, -1, Integer.MIN_VALUE}) {
            Twins.refused("measure(" + k + ", 5)", desk -> desk.measure(k, 5) ? 1 : 0, 0);
        }
        Check.due("measure(1, 5)", new LineDesk().measure(1, 5), true);
    }

    private static void oneMoreThanThereAre() {
        LineDesk desk = new LineDesk();
        Check.due("measure(3, 5) with one", desk.measure(3, 5), false);
        Check.due("measure(2, 5) with one", desk.measure(2, 5), true);
        Check.due("measure(4, 5) with two", desk.measure(4, 5), false);
        Check.due("measure(3, 5) with two", desk.measure(3, 5), true);
        Check.due("measure(5, 5) with three", desk.measure(5, 5), false);
        Check.due("measure(4, 5) with three", desk.measure(4, 5), true);
        Check.due("measure(2, 5) with four", desk.measure(2, 5), true);
        Check.due("measure(4, 5) with two", desk.measure(4, 5), false);
    }

    private static void tooHigh() {
        for (int k : new int[] {5, 6, 256, 257, Integer.MAX_VALUE}) {
            Twins.refused("measure(" + k + ", 5)", desk -> desk.measure(k, 5) ? 1 : 0, 0);
        }
    }

    private static LineDesk full() {
        LineDesk desk = new LineDesk();
        for (int k = 1; k <= 256; k++) {
            Check.due("measure(" + k + ", k)", desk.measure(k, k), true);
        }
        return desk;
    }

    private static void above256() {
        LineDesk desk = full();
        Check.due("measure(257, 1)", desk.measure(257, 1), false);
        Check.due("measure(258, 1)", desk.measure(258, 1), false);
        Check.due("measure(256, 9)", desk.measure(256, 9), true);
        Check.due("measure(257, 1) again", desk.measure(257, 1), false);
        Check.due("measure(255, 9)", desk.measure(255, 9), true);
        Check.due("measure(257, 1) with 255", desk.measure(257, 1), false);
        Check.due("measure(256, 9) with 255", desk.measure(256, 9), true);
    }

    /** Lines with nothing in them: each shows its measure by its excess, a skip of 1000 less it. */
    private static void fullIsLeftAsItWas() {
        LineDesk desk = full();
        desk.measure(257, 1);
        desk.measure(0, 1);
        desk.skip(0, 1000, 0, 0, 0);
        for (int k = 1; k <= 247; k++) {
            desk.penalty(-10000);
        }
        Check.lines(desk, 248);
        long sum = 0;
        for (int k = 1; k <= 248; k++) {
            sum += 1000 - k;
        }
        Check.due("what sticks out together", desk.about(3), sum);
        Check.due("of the last line", desk.line(248, 4), 1000 - 248);
    }

    /** The first measure is the new object's 0, so that line 256 is made by the 511th call. */
    private static void lineOfEachMeasure() {
        LineDesk desk = new LineDesk();
        for (int k = 2; k <= 256; k++) {
            desk.measure(k, -k);
        }
        for (int k = 2; k <= 256; k++) {
            desk.penalty(-10000);
        }
        Check.lines(desk, 256);
        Check.due("what sticks out together", desk.about(3), 256 * 257 / 2 - 1);
    }

    private static void width() {
        for (int width : new int[] {Check.WIDEST + 1, -Check.WIDEST - 1, Integer.MAX_VALUE, Integer.MIN_VALUE}) {
            for (int k = 1; k <= 2; k++) {
                int number = k;
                Twins.refused("measure(" + k + ", " + width + ")", desk -> desk.measure(number, width) ? 1 : 0, 0);
            }
        }
        LineDesk desk = new LineDesk();
        Check.due("widest", desk.measure(1, Check.WIDEST), true);
        desk.box(Check.WIDEST);
        Check.lines(desk, 1);
        Check.line(desk, 1, 0, 1, 0, 2, 0);
        Check.due("narrowest", desk.measure(1, -Check.WIDEST), true);
        Check.lines(desk, 1);
        Check.line(desk, 1, 0, 1, 10000, 3, 2 * Check.WIDEST);
        Check.due("narrowest second", desk.measure(2, -Check.WIDEST), true);
        Check.due("widest third", desk.measure(3, Check.WIDEST), true);
    }

    private static void linesStay() {
        LineDesk desk = new LineDesk();
        desk.box(1);
        Check.lines(desk, 1);
        desk.measure(1, 1);
        Check.line(desk, 1, 0, 1, 10000, 3, 1);
    }
}
