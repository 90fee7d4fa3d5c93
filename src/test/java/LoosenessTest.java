/** Terms: which number of lines a LOOSENESS asks for. */
public final class LoosenessTest {
    public static void main(String[] args) {
        Check.sentence("With a LOOSENESS q that is not 0", LoosenessTest::nothingAsked);
        Check.sentence("of the numbers of lines from those of the best way on to q more", LoosenessTest::more);
        Check.sentence("(or less)", LoosenessTest::less);
        Check.sentence("for which there is a way in this pass (a gap upwards)", LoosenessTest::gapUpwards);
        Check.sentence("for which there is a way in this pass (a gap downwards)", LoosenessTest::gapDownwards);
        Check.sentence("for which there is a way in this pass (not in a later one)", LoosenessTest::notInALaterPass);
        Check.sentence("the one nearest to q more, if there is none beyond the best way's", LoosenessTest::forcedOnly);
        Check.sentence("the way is the best one with so many lines", LoosenessTest::bestOfSoMany);
        Check.sentence("the way is the best one with so many lines, not one with more", LoosenessTest::notOneWithMore);
        Check.sentence("in pass 3, too", LoosenessTest::inPassThree);
        Check.end();
    }

    /** On a wide desk each number of lines has ways; the penalties make three lines the best. */
    private static LineDesk threeAreBest() {
        LineDesk desk = Wide.desk();
        int[] costs = {5, -5, 7, -6, 8};
        for (int cost : costs) {
            desk.box(1);
            desk.penalty(cost);
        }
        desk.box(1);
        return desk;
    }

    private static void check(LineDesk desk, int q, int want, long demerits) {
        desk.rule(8, q);
        Check.lines(desk, want);
        Check.due("demerits with LOOSENESS " + q, desk.about(2), demerits);
    }

    private static void nothingAsked() {
        check(threeAreBest(), 0, 3, -61);
    }

    private static void more() {
        LineDesk desk = threeAreBest();
        check(desk, 1, 4, -36);
        check(desk, 2, 5, 13);
        check(desk, 3, 6, 77);
        check(desk, 4, 6, 77);
        check(desk, 10000, 6, 77);
    }

    private static void less() {
        LineDesk desk = threeAreBest();
        check(desk, -1, 2, -36);
        check(desk, -2, 1, 0);
        check(desk, -3, 1, 0);
        check(desk, -10000, 1, 0);
    }

    /**
     * Lines must have their measure: one line of 10, or three of 10, 5 and -5. Two have none, as
     * the second one would need 5 and has 0, or the first one has 15.
     */
    private static LineDesk oneOrThree(int cost) {
        LineDesk desk = new LineDesk();
        desk.rule(0, 0);
        desk.rule(2, 0);
        desk.measure(1, 10);
        desk.measure(2, 5);
        desk.measure(3, -5);
        desk.box(10);
        desk.penalty(cost);
        desk.box(5);
        desk.penalty(cost);
        desk.box(-5);
        return desk;
    }

    private static void gapUpwards() {
        LineDesk desk = oneOrThree(3);
        check(desk, 0, 1, 0);
        check(desk, 1, 1, 0);
        check(desk, 2, 3, 18);
        check(desk, 3, 3, 18);
        Check.column(desk, 1, 1, 3, 5);
        Check.due("pass", desk.about(0), 1);
    }

    private static void gapDownwards() {
        LineDesk desk = oneOrThree(-3);
        check(desk, 0, 3, -18);
        check(desk, -1, 3, -18);
        check(desk, -2, 1, 0);
        check(desk, -3, 1, 0);
        Check.column(desk, 1, 5);
        Check.due("pass", desk.about(0), 1);
    }

    private static void notInALaterPass() {
        LineDesk desk = new LineDesk();
        desk.measure(1, 10);
        desk.box(5);
        desk.penalty(0);
        desk.cut(5, 5, 0, 4);
        desk.box(5);
        check(desk, 1, 1, 100);
        Check.due("pass", desk.about(0), 1);
        desk.rule(0, -1);
        check(desk, 1, 2, 100 + 2500 + 100 + 5000);
        Check.due("pass", desk.about(0), 2);
        check(desk, 2, 2, 100 + 2500 + 100 + 5000);
        Check.due("pass", desk.about(0), 2);
    }

    private static void forcedOnly() {
        LineDesk desk = new LineDesk();
        desk.measure(1, 10);
        desk.box(10);
        desk.penalty(-10000);
        desk.box(10);
        check(desk, 5, 2, 200);
        check(desk, -5, 2, 200);
        check(desk, 1, 2, 200);
        check(desk, -1, 2, 200);
    }

    private static void bestOfSoMany() {
        LineDesk desk = threeAreBest();
        check(desk, -1, 2, -36);
        Check.column(desk, 1, 7, 11);
        check(desk, 1, 4, -36);
        Check.column(desk, 1, 1, 3, 7, 11);
        check(desk, 2, 5, 13);
        Check.column(desk, 1, 1, 3, 5, 7, 11);
    }

    /** One line is the best; three are better than two, as two cuts behind one another are. */
    private static void notOneWithMore() {
        LineDesk desk = Wide.desk();
        desk.rule(4, 5);
        desk.rule(6, -40);
        desk.cut(0, 0, 0, 0);
        desk.cut(0, 0, 0, 0);
        check(desk, 0, 1, 0);
        check(desk, 1, 2, 25);
        Check.column(desk, 1, 0, 2);
        check(desk, 2, 3, 10);
        desk.rule(6, -100);
        check(desk, 0, 3, -50);
        check(desk, -1, 2, 25);
        check(desk, -2, 1, 0);
    }

    private static void inPassThree() {
        LineDesk desk = new LineDesk();
        desk.rule(5, 0);
        desk.measure(1, 10);
        desk.box(20);
        desk.penalty(-1);
        desk.box(20);
        desk.penalty(1);
        desk.box(20);
        check(desk, 0, 3, 300000000);
        check(desk, 1, 3, 300000000);
        check(desk, -1, 2, 199999999);
        Check.about(desk, 3, 2, 199999999, 40, 2);
        check(desk, -2, 1, 100000000);
        Check.about(desk, 3, 1, 100000000, 50, 1);
    }
}
