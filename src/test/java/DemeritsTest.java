/** Terms: the demerits of a line. */
public final class DemeritsTest {
    public static void main(String[] args) {
        Check.sentence("DEMERITS of a line: the square of LINE + its badness", DemeritsTest::square);
        Check.sentence("but 100000000 if that sum is 10000 or more", DemeritsTest::highSum);
        Check.sentence("or -10000 or less", DemeritsTest::lowSum);
        Check.sentence("and the square of its break's penalty p, if p is above 0", DemeritsTest::penaltyAbove);
        Check.sentence("less that square, if p is below 0 and above -10000", DemeritsTest::penaltyBelow);
        Check.sentence("and TWICE, if its break and the one before it are hyphenated", DemeritsTest::twice);
        Check.sentence("FINAL, if its break is END and the one before it is hyphenated", DemeritsTest::last);
        Check.sentence("ADJACENT, if its class and that of the line before differ by more than 1",
            DemeritsTest::adjacent);
        Check.sentence("that of the line before (2 ahead of the first)", DemeritsTest::adjacentToTheFront);
        Check.sentence("demerits together are far beyond an int", DemeritsTest::wideSums);
        Check.end();
    }

    private static void check(int line, int excess, long want) {
        LineDesk desk = new LineDesk();
        desk.rule(2, line);
        desk.rule(5, 0);
        desk.measure(1, excess);
        desk.glue(0, 297, 0, 0);
        Check.lines(desk, 1);
        Check.due("LINE " + line + ", excess " + excess, desk.about(2), want);
    }

    private static void square() {
        check(0, 0, 0);
        check(10, 0, 100);
        check(-10, 0, 100);
        check(5, 297, 105 * 105);
        check(-100, 297, 0);
        check(-101, 297, 1);
        check(1000, 1290, 9189L * 9189);
    }

    private static void highSum() {
        check(9999, 0, 99980001);
        check(10000, 0, 100000000);
        check(9899, 297, 99980001);
        check(9900, 297, 100000000);
        check(9901, 297, 100000000);
        check(10000, 1291, 100000000);
        check(-1, 1291, 99980001);
        check(0, 1291, 100000000);
        check(1, 1291, 100000000);
    }

    private static void lowSum() {
        check(-9999, 0, 99980001);
        check(-10000, 0, 100000000);
        check(-10000, 51, 99980001);
        check(-10000, 1291, 0);
    }

    /** The demerits of the penalty alone, with all breaks taken. */
    private static long atPenalty(int p) {
        LineDesk desk = Wide.desk();
        desk.rule(8, 10000);
        desk.penalty(p);
        Check.lines(desk, 2);
        return desk.about(2);
    }

    private static void penaltyAbove() {
        Check.due("p 0", atPenalty(0), 0);
        Check.due("p 1", atPenalty(1), 1);
        Check.due("p 9999", atPenalty(9999), 99980001);
        LineDesk desk = Wide.desk();
        desk.rule(8, 10000);
        desk.rule(4, 10000);
        desk.cut(0, 0, 0, 0);
        Check.lines(desk, 2);
        Check.due("BARE 10000", desk.about(2), 100000000);
    }

    private static void penaltyBelow() {
        Check.due("p -1", atPenalty(-1), -1);
        Check.due("p -9999", atPenalty(-9999), -99980001);
        Check.due("p -10000", atPenalty(-10000), 0);
        Check.due("p -10001", atPenalty(-10001), 0);
        LineDesk desk = Wide.desk();
        desk.rule(4, -10000);
        desk.cut(0, 0, 0, 0);
        Check.lines(desk, 2);
        Check.due("BARE -10000", desk.about(2), 0);
    }

    /** All breaks of these items: c a cut, b a box with a free break behind it. */
    private static long of(String breaks, int which, int v) {
        LineDesk desk = Wide.desk();
        desk.rule(8, 10000);
        desk.rule(4, 0);
        desk.rule(which, v);
        for (char kind : breaks.toCharArray()) {
            desk.box(1);
            if (kind == 'c') {
                desk.cut(0, 0, 0, 0);
            } else {
                desk.penalty(0);
            }
        }
        desk.box(1);
        Check.lines(desk, breaks.length() + 1);
        return desk.about(2);
    }

    private static void twice() {
        Check.due("the first line's cut", of("c", 6, 7), 0);
        Check.due("two cuts", of("cc", 6, 7), 7);
        Check.due("three cuts", of("ccc", 6, 7), 14);
        Check.due("a cut, then none", of("cb", 6, 7), 0);
        Check.due("a cut behind none", of("bc", 6, 7), 0);
        Check.due("cuts apart", of("cbc", 6, 7), 0);
        Check.due("below 0", of("cc", 6, -1000000000), -1000000000);
    }

    private static void last() {
        Check.due("no cut", of("b", 7, 7), 0);
        Check.due("a cut", of("c", 7, 7), 7);
        Check.due("two cuts", of("cc", 7, 7), 7);
        Check.due("a cut, then none", of("cb", 7, 7), 0);
        Check.due("a cut behind none", of("bc", 7, 7), 7);
        Check.due("nothing but END", of("", 7, 7), 0);
        Check.due("below 0", of("c", 7, -1000000000), -1000000000);
    }

    /** Lines of these classes; each has a measure of its own, and shrinks or stretches by 297. */
    private static LineDesk classes(int... classes) {
        int[] excess = {297, 200, 0, -297};
        LineDesk desk = new LineDesk();
        desk.rule(5, 7000);
        desk.skip(0, 0, 297, 0, 297);
        for (int k = 1; k <= classes.length; k++) {
            desk.measure(k, excess[classes[k - 1]]);
            if (k > 1) {
                desk.penalty(-10000);
            }
            desk.box(0);
        }
        Check.lines(desk, classes.length);
        Check.column(desk, 3, classes);
        return desk;
    }

    private static long squares(int... classes) {
        int[] badness = {100, 31, 0, 100};
        long sum = 0;
        for (int c : classes) {
            sum += (10L + badness[c]) * (10 + badness[c]);
        }
        return sum;
    }

    private static void adjacent() {
        for (int a = 0; a <= 3; a++) {
            for (int b = 0; b <= 3; b++) {
                long due = squares(2, a, b) + (a == 0 ? 7000 : 0) + (a - b > 1 || b - a > 1 ? 7000 : 0);
                Check.due("classes " + a + " and " + b, classes(2, a, b).about(2), due);
            }
        }
    }

    private static void adjacentToTheFront() {
        for (int c = 0; c <= 3; c++) {
            Check.due("class " + c, classes(c).about(2), squares(c) + (c == 0 ? 7000 : 0));
        }
        Check.column(looseOrTight(1), 3, 3, 3);
        Check.column(looseOrTight(0), 3, 0, 1);
        Check.column(looseOrTight(-1), 3, 0, 1);
    }

    /**
     * Two lines of the classes 0 and 1 by the first cut, 3 and 3 by the second, with equal demerits
     * but for ADJACENT, which the loose ones have once: ahead of the first line.
     */
    private static LineDesk looseOrTight(int adjacent) {
        LineDesk desk = new LineDesk();
        desk.rule(2, -50);
        desk.rule(5, adjacent);
        desk.measure(1, 297);
        desk.skip(0, 0, 297, 0, 297);
        desk.cut(0, -497, 594, 0);
        desk.cut(0, 497, 594, 0);
        Check.lines(desk, 2);
        boolean loose = desk.line(1, 3) == 0;
        Check.due("demerits", desk.about(2), 2500 + 19 * 19 + 2500 + 5000 + (loose ? adjacent : 0));
        return desk;
    }

    private static void wideSums() {
        LineDesk desk = Wide.desk();
        desk.rule(2, 10000);
        desk.rule(4, 10000);
        desk.rule(6, 1000000000);
        desk.rule(8, 10000);
        for (int i = 0; i < 50; i++) {
            desk.cut(0, 0, 0, 0);
        }
        Check.lines(desk, 51);
        Check.due("demerits", desk.about(2), 51 * 100000000L + 50 * 100000000L + 49 * 1000000000L);
        desk.rule(2, 0);
        desk.rule(4, 0);
        desk.rule(6, -1000000000);
        Check.lines(desk, 51);
        Check.due("demerits below 0", desk.about(2), -49 * 1000000000L);
    }
}
