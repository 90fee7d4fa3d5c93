/** Terms: excess, badness, class and what sticks out of one line. */
public final class BadnessTest {
    public static void main(String[] args) {
        Check.sentence("EXCESS is the measure less the width. If it is not below 0: BADNESS 0 and CLASS 2, "
            + "if there is a stretch of an order above 0", BadnessTest::highStretch);
        Check.sentence("else the badness is that of the excess and the stretch", BadnessTest::lowStretch);
        Check.sentence("the class 0 if it is above 99", BadnessTest::classZero);
        Check.sentence("1 if it is above 12, else 2", BadnessTest::classOneOrTwo);
        Check.sentence("If it is below 0: if the shrink is less than what is wanting, the line STICKS OUT by the "
            + "difference, badness 10000, class 3", BadnessTest::sticksOut);
        Check.sentence("else the badness is that of what is wanting and the shrink", BadnessTest::shrinks);
        Check.sentence("the class 3 if it is above 12, else 2", BadnessTest::classThree);
        Check.sentence("The badness of t and s is 0 if t is 0", BadnessTest::nothingToGive);
        Check.sentence("10000 if s is 0", BadnessTest::nothingGives);
        Check.sentence("else r = 297 * t / s (rounded down)", BadnessTest::ratioIsRoundedDown);
        Check.sentence("and 10000 if r is above 1290", BadnessTest::ratioAbove1290);
        Check.sentence("else (r * r * r + 131072) / 262144, rounded down", BadnessTest::cubeIsRoundedDown);
        Check.sentence("r is found with more than an int", BadnessTest::wideRatios);
        Check.end();
    }

    private static final int MAX = Check.WIDEST;

    /** One line of one glue with this excess, or one that is wanting, if that is below 0. */
    private static void check(int excess, int stretch, int order, int shrink, int... badnessClassOut) {
        LineDesk desk = new LineDesk();
        desk.measure(1, excess);
        desk.glue(0, stretch, order, shrink);
        Check.lines(desk, 1);
        int[] want = badnessClassOut;
        Check.line(desk, 1, 0, 1, want[0], want[1], want[2]);
    }

    private static void highStretch() {
        for (int order = 1; order <= 3; order++) {
            check(0, 1, order, 0, 0, 2, 0);
            check(1, 1, order, 0, 0, 2, 0);
            check(MAX, 1, order, 0, 0, 2, 0);
            check(-1, MAX, order, 0, 10000, 3, 1);
            check(-1, MAX, order, 1, 100, 3, 0);
            check(1, 0, order, 5, 10000, 0, 0);
            withLowStretchToo(order);
        }
    }

    private static void withLowStretchToo(int order) {
        LineDesk desk = new LineDesk();
        desk.measure(1, 100);
        desk.glue(0, 100, 0, 0);
        desk.glue(0, 1, order, 0);
        Check.lines(desk, 1);
        Check.line(desk, 1, 0, 2, 0, 2, 0);
    }

    private static void lowStretch() {
        check(0, 0, 0, 0, 0, 2, 0);
        check(0, 297, 0, 297, 0, 2, 0);
        check(200, 297, 0, 0, 31, 1, 0);
        check(200, 297, 0, 1000, 31, 1, 0);
        check(1, 0, 0, 1000, 10000, 0, 0);
    }

    private static void classZero() {
        check(296, 297, 0, 0, 99, 1, 0);
        check(297, 297, 0, 0, 100, 0, 0);
        check(1290, 297, 0, 0, 8189, 0, 0);
        check(1291, 297, 0, 0, 10000, 0, 0);
    }

    private static void classOneOrTwo() {
        check(148, 297, 0, 0, 12, 2, 0);
        check(149, 297, 0, 0, 13, 1, 0);
        check(1, 297, 0, 0, 0, 2, 0);
    }

    private static void sticksOut() {
        check(-297, 0, 0, 297, 100, 3, 0);
        check(-298, 0, 0, 297, 10000, 3, 1);
        check(-1, 0, 0, 0, 10000, 3, 1);
        check(-MAX, 0, 0, MAX, 100, 3, 0);
        check(-MAX, 0, 0, MAX - 1, 10000, 3, 1);
        check(-MAX, MAX, 0, 0, 10000, 3, MAX);
    }

    private static void shrinks() {
        check(0, 0, 0, 297, 0, 2, 0);
        check(-1, 0, 0, 297, 0, 2, 0);
        check(-200, 0, 0, 297, 31, 3, 0);
        check(-200, 1000, 0, 297, 31, 3, 0);
        check(-200, 1000, 1, 297, 31, 3, 0);
    }

    private static void classThree() {
        check(-148, 0, 0, 297, 12, 2, 0);
        check(-149, 0, 0, 297, 13, 3, 0);
        check(-297, 0, 0, 297, 100, 3, 0);
    }

    private static void nothingToGive() {
        check(0, 0, 0, 0, 0, 2, 0);
        check(0, 5, 0, 0, 0, 2, 0);
        check(0, 0, 0, 5, 0, 2, 0);
    }

    /** A shrink of nothing is less than what is wanting, so only stretching comes to this. */
    private static void nothingGives() {
        check(1, 0, 0, 0, 10000, 0, 0);
        check(MAX, 0, 0, MAX, 10000, 0, 0);
    }

    private static void ratioIsRoundedDown() {
        check(2979, 5940, 0, 0, 12, 2, 0);
        check(1489, 2970, 0, 0, 12, 2, 0);
        check(1490, 2970, 0, 0, 13, 1, 0);
        check(-1489, 0, 0, 2970, 12, 2, 0);
        check(-1490, 0, 0, 2970, 13, 3, 0);
    }

    private static void ratioAbove1290() {
        check(1290, 297, 0, 0, 8189, 0, 0);
        check(12909, 2970, 0, 0, 8189, 0, 0);
        check(12910, 2970, 0, 0, 10000, 0, 0);
        check(MAX, 1, 0, 0, 10000, 0, 0);
    }

    /** 50 cubed is 125000, 51 cubed 132651; 8189 is 2146689000 + 131072 by 262144. */
    private static void cubeIsRoundedDown() {
        check(50, 297, 0, 0, 0, 2, 0);
        check(51, 297, 0, 0, 1, 2, 0);
        check(73, 297, 0, 0, 1, 2, 0);
        check(74, 297, 0, 0, 2, 2, 0);
        check(359, 297, 0, 0, 176, 0, 0);
        check(594, 297, 0, 0, 800, 0, 0);
        check(1289, 297, 0, 0, 8170, 0, 0);
        for (int r = 0; r <= 1290; r++) {
            int badness = (int) ((1L * r * r * r + 131072) / 262144);
            check(r, 297, 0, 0, badness, badness > 99 ? 0 : badness > 12 ? 1 : 2, 0);
            if (r <= 297) {
                check(-r, 0, 0, 297, badness, badness > 12 ? 3 : 2, 0);
            }
        }
    }

    private static void wideRatios() {
        check(1, MAX, 0, 0, 0, 2, 0);
        check(MAX, MAX, 0, 0, 100, 0, 0);
        check(MAX / 2, MAX, 0, 0, 12, 2, 0);
        check(-MAX, 0, 0, MAX, 100, 3, 0);
    }
}
