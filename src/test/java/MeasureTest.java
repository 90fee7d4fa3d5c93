/** Promise 3: measure. */
public final class MeasureTest {
    public static void main(String[] args) {
        answers();
        mostMeasures();
        lineOfEachMeasure();
        linesHaveTheirMeasures();
        refusedChangesNothing();
        Check.end();
    }

    private static void answers() {
        LineDesk desk = new LineDesk();
        Check.due("measure(0, 5)", desk.measure(0, 5), false);
        Check.due("measure(-1, 5)", desk.measure(-1, 5), false);
        Check.due("measure(lowest, 5)", desk.measure(Integer.MIN_VALUE, 5), false);
        Check.due("measure(highest, 5)", desk.measure(Integer.MAX_VALUE, 5), false);
        Check.due("measure(3, 5)", desk.measure(3, 5), false);
        Check.due("measure(2, 5)", desk.measure(2, 5), true);
        Check.due("measure(3, 5)", desk.measure(3, 5), true);
        Check.due("measure(5, 5)", desk.measure(5, 5), false);
        Check.due("measure(1, 5)", desk.measure(1, 5), true);
        Check.due("measure(3, 5) when one is left", desk.measure(3, 5), false);
        Check.due("widest", desk.measure(1, 1073741823), true);
        Check.due("narrowest", desk.measure(1, -1073741823), true);
        Check.due("too wide", desk.measure(1, 1073741824), false);
        Check.due("too narrow", desk.measure(1, -1073741824), false);
        Check.due("lowest", desk.measure(1, Integer.MIN_VALUE), false);
    }

    private static void mostMeasures() {
        LineDesk desk = new LineDesk();
        for (int k = 1; k <= 256; k++) {
            Check.due("measure(" + k + ", k)", desk.measure(k, k), true);
        }
        Check.due("measure(257, 1)", desk.measure(257, 1), false);
        Check.due("measure(256, 9)", desk.measure(256, 9), true);
        Check.due("measure(258, 1)", desk.measure(258, 1), false);
        Check.due("measure(257, 1) again", desk.measure(257, 1), false);
    }

    /** 256 lines with nothing in them, each sticking out by what its measure is below 0. */
    private static void lineOfEachMeasure() {
        LineDesk desk = new LineDesk();
        for (int k = 2; k <= 256; k++) {
            desk.measure(k, -k);
        }
        for (int k = 2; k <= 256; k++) {
            desk.penalty(-10000);
        }
        Check.lines(desk, 256);
        Check.due("about(3)", desk.about(3), 256 * 257 / 2 - 1);
    }

    /** Each forced line sticks out by 100 less its measure. */
    private static void checkMeasures(LineDesk desk, int... want) {
        desk.clear();
        for (int k = 0; k < want.length; k++) {
            if (k > 0) {
                desk.penalty(-10000);
            }
            desk.box(100);
        }
        Check.lines(desk, want.length);
        for (int k = 0; k < want.length; k++) {
            Check.due("measure of line " + (k + 1), 100 - desk.line(k + 1, 4), want[k]);
        }
    }

    private static void linesHaveTheirMeasures() {
        LineDesk desk = new LineDesk();
        checkMeasures(desk, 0, 0, 0);
        desk.measure(1, 10);
        checkMeasures(desk, 10, 10, 10);
        desk.measure(2, 20);
        checkMeasures(desk, 10, 20, 20, 20);
        desk.measure(3, 30);
        desk.measure(4, 40);
        checkMeasures(desk, 10, 20, 30, 40, 40);
        desk.measure(2, 25);
        checkMeasures(desk, 10, 25, 25, 25, 25);
        desk.measure(3, -5);
        checkMeasures(desk, 10, 25, -5, -5, -5);
        desk.rule(8, 1);
        checkMeasures(desk, 10, 25, -5, -5, -5);
    }

    private static void refusedChangesNothing() {
        LineDesk desk = new LineDesk();
        desk.measure(1, 10);
        desk.measure(2, 20);
        desk.measure(3, 30);
        desk.measure(2, 1073741824);
        desk.measure(0, 7);
        desk.measure(5, 7);
        checkMeasures(desk, 10, 20, 30, 30);
    }
}
