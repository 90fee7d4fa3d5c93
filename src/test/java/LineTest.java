/** Promise 12: line. */
public final class LineTest {
    public static void main(String[] args) {
        Check.sentence("what 0: the item at which it begins, 1 its break, 2 its badness, 3 its class, "
            + "4 by how much it sticks out", LineTest::whats);
        Check.sentence("Of line k (1, 2, ..) of those made last", LineTest::madeLast);
        Check.sentence("(at most 2147483647)", LineTest::sticksOutFar);
        Check.sentence("IndexOutOfBoundsException if there is no such line (none made)", LineTest::noneMade);
        Check.sentence("IndexOutOfBoundsException if there is no such line (too low)", LineTest::tooLow);
        Check.sentence("IndexOutOfBoundsException if there is no such line (too high)", LineTest::tooHigh);
        Check.sentence("IndexOutOfBoundsException if there is no such line (made before, but not last)",
            LineTest::madeBefore);
        Check.sentence("or what", LineTest::noSuchWhat);
        Check.sentence("a refused line() leaves all as it was", LineTest::refusedChangesNothing);
        Check.end();
    }

    private static LineDesk threeLines() {
        LineDesk desk = new LineDesk();
        desk.measure(1, 20);
        desk.box(10);
        desk.penalty(10000);
        desk.glue(4, 6, 0, 2);
        desk.box(4);
        desk.penalty(-10000);
        desk.kern(9);
        desk.box(25);
        desk.kern(2);
        desk.penalty(-10000);
        desk.box(20);
        Check.lines(desk, 3);
        return desk;
    }

    private static void checkThreeLines(LineDesk desk) {
        Check.line(desk, 1, 0, 4, 4, 2, 0);
        Check.line(desk, 2, 6, 8, 10000, 3, 7);
        Check.line(desk, 3, 9, 10, 0, 2, 0);
    }

    private static void whats() {
        checkThreeLines(threeLines());
    }

    private static void madeLast() {
        LineDesk desk = threeLines();
        desk.box(1);
        desk.measure(1, 7);
        desk.rule(1, 0);
        desk.skip(0, 1, 0, 0, 0);
        checkThreeLines(desk);
        desk.clear();
        checkThreeLines(desk);
        desk.box(6);
        checkThreeLines(desk);
        Check.lines(desk, 1);
        Check.line(desk, 1, 0, 1, 0, 2, 0);
    }

    private static void wrong(LineDesk desk, int k, int what) {
        Check.due("line(" + k + ", " + what + ")", Check.answer(() -> desk.line(k, what)), Check.INDEX);
    }

    private static void wrongLine(LineDesk desk, int k) {
        for (int what = -1; what <= 5; what++) {
            wrong(desk, k, what);
        }
    }

    private static void noneMade() {
        LineDesk desk = new LineDesk();
        for (int k = -1; k <= 2; k++) {
            wrongLine(desk, k);
        }
        desk.box(0);
        wrongLine(desk, 1);
        Check.lines(desk, 1);
        wrongLine(desk, 2);
        Check.line(desk, 1, 0, 1, 0, 2, 0);
    }

    private static void tooLow() {
        LineDesk desk = threeLines();
        for (int k : new int[] {0, -1, -2, Integer.MIN_VALUE}) {
            wrongLine(desk, k);
        }
    }

    private static void tooHigh() {
        LineDesk desk = threeLines();
        for (int k : new int[] {4, 5, 8, 9, 400, 401, Integer.MAX_VALUE}) {
            wrongLine(desk, k);
        }
        desk = new LineDesk();
        for (int i = 0; i < 399; i++) {
            desk.penalty(-10000);
        }
        Check.lines(desk, 400);
        Check.line(desk, 400, 399, 399, 0, 2, 0);
        wrongLine(desk, 401);
    }

    private static void madeBefore() {
        LineDesk desk = threeLines();
        desk.clear();
        desk.box(20);
        Check.lines(desk, 1);
        Check.line(desk, 1, 0, 1, 0, 2, 0);
        wrongLine(desk, 2);
        wrongLine(desk, 3);
    }

    private static void noSuchWhat() {
        LineDesk desk = threeLines();
        for (int k = 1; k <= 3; k++) {
            for (int what : new int[] {-1, 5, 6, Integer.MIN_VALUE, Integer.MAX_VALUE}) {
                wrong(desk, k, what);
            }
        }
        wrong(desk, 0, 5);
        wrong(desk, 4, -1);
    }

    private static void refusedChangesNothing() {
        Twins.refused("line(0, 0)", desk -> desk.line(0, 0), Check.INDEX);
        Twins.refused("line(1000, 0)", desk -> desk.line(1000, 0), Check.INDEX);
        Twins.refused("line(1, 5)", desk -> desk.line(1, 5), Check.INDEX);
        Twins.refused("line(1, -1)", desk -> desk.line(1, -1), Check.INDEX);
    }

    private static void sticksOutFar() {
        LineDesk desk = new LineDesk();
        desk.measure(1, -1);
        desk.box(Check.WIDEST);
        desk.box(Check.WIDEST - 1);
        Check.lines(desk, 1);
        Check.line(desk, 1, 0, 2, 10000, 3, 2147483646);
        desk.box(1);
        Check.lines(desk, 1);
        Check.line(desk, 1, 0, 3, 10000, 3, 2147483647);
        Check.due("about(3)", desk.about(3), 2147483647L);
        desk.box(1);
        Check.lines(desk, 1);
        Check.line(desk, 1, 0, 4, 10000, 3, 2147483647);
        Check.due("about(3)", desk.about(3), 2147483648L);
        for (int i = 0; i < 9; i++) {
            desk.box(Check.WIDEST);
        }
        Check.lines(desk, 1);
        Check.line(desk, 1, 0, 13, 10000, 3, 2147483647);
        Check.due("about(3)", desk.about(3), 2147483648L + 9L * Check.WIDEST);
    }
}
