/** Promises 5 to 9: what box, glue, kern, penalty and cut answer, and what they refuse. */
public final class ItemsTest {
    private static final int MAX = Check.WIDEST;
    private static final int[] TOO_WIDE = {MAX + 1, -MAX - 1, Integer.MAX_VALUE, Integer.MIN_VALUE};
    private static final int[] NO_GIVE = {-1, MAX + 1, Integer.MAX_VALUE, Integer.MIN_VALUE};

    public static void main(String[] args) {
        Check.sentence("ITEMS are numbered 0, 1, .. as they come", ItemsTest::numbers);
        Check.sentence("box: An item more: its number", ItemsTest::box);
        Check.sentence("box: NONE if a width is out of its bounds", ItemsTest::boxRefused);
        Check.sentence("glue: As box()", ItemsTest::glue);
        Check.sentence("glue: As box() (its width)", ItemsTest::glueWidthRefused);
        Check.sentence("NONE also if the stretch or the shrink is below 0 or out of its bounds",
            ItemsTest::glueGiveRefused);
        Check.sentence("or there is no such order", ItemsTest::glueOrderRefused);
        Check.sentence("As box(), a kern", ItemsTest::kern);
        Check.sentence("kern: As box() (its width)", ItemsTest::kernRefused);
        Check.sentence("penalty: As box(), but NONE only if there are 4096", ItemsTest::penalty);
        Check.sentence("A number below -10000 counts as that", ItemsTest::lowPenalty);
        Check.sentence("one above 10000 as that", ItemsTest::highPenalty);
        Check.sentence("cut: As box()", ItemsTest::cut);
        Check.sentence("cut: As box() (each of its widths)", ItemsTest::cutWidthsRefused);
        Check.sentence("NONE also if flags is not 0 .. 7", ItemsTest::cutFlagsRefused);
        Check.sentence("or there are 4096", ItemsTest::full);
        Check.end();
    }

    private static void numbers() {
        LineDesk desk = new LineDesk();
        for (int i = 0; i < 500; i += 5) {
            Check.due("box", desk.box(1), i);
            Check.due("glue", desk.glue(1, 1, 0, 1), i + 1);
            Check.due("kern", desk.kern(1), i + 2);
            Check.due("penalty", desk.penalty(10000), i + 3);
            Check.due("cut", desk.cut(1, 1, 1, 7), i + 4);
        }
        Check.due("items", desk.about(5), 500);
    }

    /** All items that there are in one line, on a measure that shows their sums. */
    private static void checkOneLine(LineDesk desk, int measure, int badness, int fitClass, int out) {
        int items = (int) desk.about(5);
        desk.measure(1, measure);
        desk.rule(8, -10000);
        Check.lines(desk, 1);
        Check.line(desk, 1, 0, items, badness, fitClass, out);
    }

    private static void box() {
        LineDesk desk = new LineDesk();
        Check.due("box(MAX)", desk.box(MAX), 0);
        checkOneLine(desk, MAX, 0, 2, 0);
        checkOneLine(desk, MAX - 1, 10000, 3, 1);
        Check.due("box(-MAX)", desk.box(-MAX), 1);
        checkOneLine(desk, 0, 0, 2, 0);
        Check.due("box(-MAX)", desk.box(-MAX), 2);
        checkOneLine(desk, -MAX, 0, 2, 0);
        Check.due("box(0)", desk.box(0), 3);
        checkOneLine(desk, -MAX, 0, 2, 0);
        Check.due("items", desk.about(5), 4);
    }

    private static void boxRefused() {
        for (int width : TOO_WIDE) {
            Twins.refused("box(" + width + ")", desk -> desk.box(width), LineDesk.NONE);
        }
    }

    private static void glue() {
        LineDesk desk = new LineDesk();
        Check.due("widest", desk.glue(MAX, 0, 0, 0), 0);
        checkOneLine(desk, MAX, 0, 2, 0);
        Check.due("narrowest", desk.glue(-MAX, 0, 0, 0), 1);
        checkOneLine(desk, 0, 0, 2, 0);
        Check.due("most stretch", desk.glue(0, MAX, 0, 0), 2);
        checkOneLine(desk, MAX, 100, 0, 0);
        Check.due("most shrink", desk.glue(0, 0, 0, MAX), 3);
        checkOneLine(desk, -MAX, 100, 3, 0);
        Check.due("one stretch", desk.glue(0, 1, 0, 0), 4);
        Check.due("one shrink", desk.glue(0, 0, 0, 1), 5);
        for (int order = 1; order <= 3; order++) {
            Check.due("order " + order, desk.glue(0, MAX, order, 0), 5 + order);
            checkOneLine(desk, MAX, 0, 2, 0);
        }
    }

    private static void refusedGlue(int width, int stretch, int order, int shrink) {
        Twins.refused("glue(" + width + ", " + stretch + ", " + order + ", " + shrink + ")",
            desk -> desk.glue(width, stretch, order, shrink), LineDesk.NONE);
    }

    private static void glueWidthRefused() {
        for (int width : TOO_WIDE) {
            refusedGlue(width, 0, 0, 0);
            refusedGlue(width, 1, 3, 1);
        }
    }

    private static void glueGiveRefused() {
        for (int give : NO_GIVE) {
            for (int order = 0; order <= 3; order++) {
                refusedGlue(1, give, order, 1);
                refusedGlue(1, 1, order, give);
            }
            refusedGlue(1, give, 0, give);
        }
    }

    private static void glueOrderRefused() {
        for (int order : new int[] {-1, 4, Integer.MAX_VALUE, Integer.MIN_VALUE}) {
            refusedGlue(1, 1, order, 1);
            refusedGlue(0, 0, order, 0);
        }
    }

    private static void kern() {
        LineDesk desk = new LineDesk();
        Check.due("kern(-MAX)", desk.kern(-MAX), 0);
        checkOneLine(desk, -MAX, 0, 2, 0);
        Check.due("kern(MAX)", desk.kern(MAX), 1);
        checkOneLine(desk, 0, 0, 2, 0);
        Check.due("kern(MAX)", desk.kern(MAX), 2);
        checkOneLine(desk, MAX, 0, 2, 0);
    }

    private static void kernRefused() {
        for (int width : TOO_WIDE) {
            Twins.refused("kern(" + width + ")", desk -> desk.kern(width), LineDesk.NONE);
        }
    }

    private static void penalty() {
        int[] numbers = {0, 9999, 10000, 10001, Integer.MAX_VALUE, -9999, -10000, -10001, Integer.MIN_VALUE};
        LineDesk desk = new LineDesk();
        for (int i = 0; i < numbers.length; i++) {
            Check.due("penalty(" + numbers[i] + ")", desk.penalty(numbers[i]), i);
        }
    }

    private static void lowPenalty() {
        for (int p : new int[] {-10000, -10001, -20000, Integer.MIN_VALUE}) {
            LineDesk desk = Wide.desk();
            desk.penalty(p);
            Wide.checkForced(desk, 0, 1);
            Check.due("demerits of penalty " + p, desk.about(2), 0);
        }
    }

    private static void highPenalty() {
        for (int p : new int[] {10000, 10001, 20000, Integer.MAX_VALUE}) {
            LineDesk desk = Wide.desk();
            desk.penalty(p);
            Wide.checkAllBreaks(desk, 1);
        }
    }

    private static void cut() {
        LineDesk desk = new LineDesk();
        desk.rule(4, 0);
        Check.due("uncut MAX", desk.cut(0, 0, MAX, 0), 0);
        checkOneLine(desk, MAX, 0, 2, 0);
        Check.due("uncut -MAX", desk.cut(0, 0, -MAX, 0), 1);
        checkOneLine(desk, 0, 0, 2, 0);
        desk.rule(8, 0);
        desk.rule(4, -10000);
        for (int width : new int[] {MAX, -MAX, 0}) {
            desk.clear();
            desk.measure(1, width);
            Check.due("ahead and behind " + width, desk.cut(width, width, 77, 0), 0);
            Check.lines(desk, 2);
            Check.column(desk, 2, 0, 0);
            Check.column(desk, 4, 0, 0);
        }
        for (int flags = 1; flags <= 7; flags++) {
            Check.due("flags " + flags, desk.cut(1, 2, 3, flags), flags);
        }
    }

    private static void cutWidthsRefused() {
        for (int width : TOO_WIDE) {
            refusedCut(width, 0, 0, 0);
            refusedCut(0, width, 0, 7);
            refusedCut(0, 0, width, 3);
        }
    }

    private static void refusedCut(int ahead, int behind, int uncut, int flags) {
        Twins.refused("cut(" + ahead + ", " + behind + ", " + uncut + ", " + flags + ")",
            desk -> desk.cut(ahead, behind, uncut, flags), LineDesk.NONE);
    }

    private static void cutFlagsRefused() {
        for (int flags : new int[] {-1, 8, 9, Integer.MAX_VALUE, Integer.MIN_VALUE}) {
            refusedCut(1, 1, 1, flags);
        }
    }

    /** More calls than an object is promised for; the limit holds all the same. */
    private static void full() {
        LineDesk desk = new LineDesk();
        for (int i = 0; i < 4096; i++) {
            Check.due("box", desk.box(1), i);
        }
        for (int again = 0; again < 2; again++) {
            Check.due("box", desk.box(1), LineDesk.NONE);
            Check.due("glue", desk.glue(1, 1, 1, 1), LineDesk.NONE);
            Check.due("kern", desk.kern(1), LineDesk.NONE);
            Check.due("penalty", desk.penalty(-10000), LineDesk.NONE);
            Check.due("cut", desk.cut(1, 1, 1, 1), LineDesk.NONE);
        }
        Check.due("items", desk.about(5), 4096);
        checkOneLine(desk, 4095, 10000, 3, 1);
        desk.clear();
        Check.due("box", desk.box(1), 0);
        checkOneLine(desk, 1, 0, 2, 0);
    }
}
