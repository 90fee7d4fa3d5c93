/** Terms: which ways a pass has, and which pass counts. */
public final class PassesTest {
    public static void main(String[] args) {
        Check.sentence("Pass 1 (left out if PRETOLERANCE is below 0)", PassesTest::leftOut);
        Check.sentence("only ways in which no line sticks out (pass 1)", PassesTest::noneSticksOutInPassOne);
        Check.sentence("and each badness is at most PRETOLERANCE", PassesTest::pretolerance);
        Check.sentence("each badness: of the first line, of one between, of the last", PassesTest::eachLine);
        Check.sentence("Pass 2: likewise with TOLERANCE (sticking out)", PassesTest::noneSticksOutInPassTwo);
        Check.sentence("Pass 2: likewise with TOLERANCE (badness)", PassesTest::tolerance);
        Check.sentence("Pass 2 has no way with a TOLERANCE below 0", PassesTest::toleranceBelowNothing);
        Check.sentence("Pass 3: all ways", PassesTest::allWays);
        Check.sentence("The first pass with a way counts", PassesTest::firstPassCounts);
        Check.end();
    }

    /** The pass of one line with this excess and a stretch of 297, or this much wanting of 297. */
    private static long passOf(int pretolerance, int tolerance, int excess) {
        LineDesk desk = new LineDesk();
        desk.rule(0, pretolerance);
        desk.rule(1, tolerance);
        desk.measure(1, excess);
        desk.glue(0, 297, 0, 297);
        Check.lines(desk, 1);
        return desk.about(0);
    }

    private static void leftOut() {
        Check.due("PRETOLERANCE 0", passOf(0, 200, 0), 1);
        Check.due("PRETOLERANCE -1", passOf(-1, 200, 0), 2);
        Check.due("PRETOLERANCE -10000", passOf(-10000, 200, 0), 2);
        LineDesk desk = new LineDesk();
        desk.rule(0, -1);
        desk.rule(4, -10000);
        desk.cut(0, 0, 0, 4);
        Check.lines(desk, 2);
        Check.due("pass", desk.about(0), 2);
    }

    private static void noneSticksOutInPassOne() {
        Check.due("shrinks by all it can", passOf(10000, 10000, -297), 1);
        Check.due("sticks out by 1", passOf(10000, 10000, -298), 3);
        Check.due("badness 10000 without sticking out", passOf(10000, -1, 1291), 1);
    }

    private static void pretolerance() {
        Check.due("100 of 100", passOf(100, -1, 297), 1);
        Check.due("100 of 99", passOf(99, -1, 297), 3);
        Check.due("shrinking, 100 of 100", passOf(100, -1, -297), 1);
        Check.due("shrinking, 100 of 99", passOf(99, -1, -297), 3);
        Check.due("0 of 0", passOf(0, -1, 50), 1);
        Check.due("1 of 0", passOf(0, -1, 51), 3);
        Check.due("10000 of 10000", passOf(10000, -1, 1291), 1);
        Check.due("10000 of 9999", passOf(9999, -1, 1291), 3);
    }

    private static void eachLine() {
        for (int bad = 1; bad <= 3; bad++) {
            LineDesk desk = new LineDesk();
            desk.skip(0, 0, 297, 0, 0);
            for (int k = 1; k <= 3; k++) {
                desk.measure(k, k == bad ? 297 : 0);
                desk.box(0);
                desk.penalty(k < 3 ? -10000 : 10000);
            }
            Check.lines(desk, 3);
            Check.due("pass with 100 in line " + bad, desk.about(0), 1);
            desk.rule(0, 99);
            Check.lines(desk, 3);
            Check.due("pass with 100 above 99 in line " + bad, desk.about(0), 2);
            desk.rule(1, 99);
            Check.lines(desk, 3);
            Check.due("pass with 100 above both in line " + bad, desk.about(0), 3);
        }
    }

    private static void noneSticksOutInPassTwo() {
        Check.due("shrinks by all it can", passOf(-1, 10000, -297), 2);
        Check.due("sticks out by 1", passOf(-1, 10000, -298), 3);
    }

    private static void tolerance() {
        Check.due("100 of 100", passOf(-1, 100, 297), 2);
        Check.due("100 of 99", passOf(-1, 99, 297), 3);
        Check.due("100 of 99, then of 100", passOf(99, 100, 297), 2);
        Check.due("0 of 0", passOf(-1, 0, 50), 2);
        Check.due("1 of 0", passOf(-1, 0, 51), 3);
        Check.due("10000 of 10000", passOf(-1, 10000, 1291), 2);
        Check.due("10000 of 9999", passOf(-1, 9999, 1291), 3);
    }

    private static void toleranceBelowNothing() {
        Check.due("TOLERANCE 0", passOf(-1, 0, 0), 2);
        Check.due("TOLERANCE -1", passOf(-1, -1, 0), 3);
        Check.due("TOLERANCE -10000", passOf(-1, -10000, 0), 3);
        Check.due("pass 1 does not ask for it", passOf(0, -10000, 0), 1);
    }

    /** A line that sticks out, a bad one, and automatic cuts: all in one way. */
    private static void allWays() {
        LineDesk desk = new LineDesk();
        desk.measure(1, 10);
        desk.box(30);
        desk.cut(0, 0, 9, 4);
        desk.box(1);
        Check.lines(desk, 2);
        Check.line(desk, 1, 0, 1, 10000, 3, 20);
        Check.line(desk, 2, 2, 3, 10000, 0, 0);
        Check.about(desk, 3, 2, 200000000 + 2500 + 5000 + 10000, 20, 2, 3);
    }

    /** Pass 2 would have a far better way, by an automatic cut; pass 1 has one, so that counts. */
    private static void firstPassCounts() {
        LineDesk desk = new LineDesk();
        desk.measure(1, 297);
        desk.skip(0, 0, 297, 0, 0);
        desk.box(0);
        desk.cut(297, 297, 0, 4);
        desk.box(0);
        Check.lines(desk, 1);
        Check.about(desk, 1, 1, 110 * 110 + 10000, 0, 0, 3);
        desk.rule(0, 99);
        Check.lines(desk, 2);
        Check.about(desk, 2, 2, 100 + 2500 + 100 + 5000, 0, 0, 3);
        desk.rule(1, -1);
        Check.lines(desk, 1);
        Check.about(desk, 3, 1, 110 * 110 + 10000, 0, 1, 3);
    }
}
