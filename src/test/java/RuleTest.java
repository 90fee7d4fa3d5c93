/** Promise 2: rule. */
public final class RuleTest {
    public static void main(String[] args) {
        bounds();
        refusedChangesNothing();
        tolerances();
        lineRule();
        hyphenAndBare();
        adjacentTwiceFinal();
        looseness();
        Check.end();
    }

    private static void bounds() {
        LineDesk desk = new LineDesk();
        for (int which = 0; which <= 8; which++) {
            int most = which >= 5 && which <= 7 ? 1000000000 : 10000;
            Check.due("rule(" + which + ", most)", desk.rule(which, most), true);
            Check.due("rule(" + which + ", least)", desk.rule(which, -most), true);
            Check.due("rule(" + which + ", most + 1)", desk.rule(which, most + 1), false);
            Check.due("rule(" + which + ", least - 1)", desk.rule(which, -most - 1), false);
            Check.due("rule(" + which + ", lowest)", desk.rule(which, Integer.MIN_VALUE), false);
            Check.due("rule(" + which + ", highest)", desk.rule(which, Integer.MAX_VALUE), false);
        }
        for (int which : new int[] {-1, 9, Integer.MIN_VALUE, Integer.MAX_VALUE}) {
            Check.due("rule(" + which + ", 0)", desk.rule(which, 0), false);
        }
    }

    private static void refusedChangesNothing() {
        LineDesk desk = new LineDesk();
        desk.rule(2, 30);
        desk.rule(2, 10001);
        desk.rule(2, -10001);
        desk.measure(1, 10);
        desk.box(10);
        Check.lines(desk, 1);
        Check.about(desk, 1, 1, 900);
    }

    private static void tolerances() {
        LineDesk desk = new LineDesk();
        desk.measure(1, 297);
        desk.glue(0, 297, 0, 0);
        Check.lines(desk, 1);
        Check.about(desk, 1, 1, 110 * 110 + 10000, 0, 0);
        desk.rule(0, 99);
        Check.lines(desk, 1);
        Check.about(desk, 2, 1, 110 * 110 + 10000, 0, 0);
        desk.rule(1, 99);
        Check.lines(desk, 1);
        Check.about(desk, 3, 1, 110 * 110 + 10000, 0, 1);
        desk.rule(0, -1);
        desk.rule(1, 100);
        Check.lines(desk, 1);
        Check.about(desk, 2, 1, 110 * 110 + 10000, 0, 0);
    }

    /** A sum of 10000 or more, or of -10000 or less, has the demerits of 10000. */
    private static void lineRule() {
        Check.due("LINE 0", demeritsWithLine(0), 0);
        Check.due("LINE -7", demeritsWithLine(-7), 49);
        Check.due("LINE 9999", demeritsWithLine(9999), 9999L * 9999);
        Check.due("LINE 10000", demeritsWithLine(10000), 100000000);
        Check.due("LINE -9999", demeritsWithLine(-9999), 9999L * 9999);
        Check.due("LINE -10000", demeritsWithLine(-10000), 100000000);
        LineDesk desk = new LineDesk();
        desk.rule(2, -10000);
        desk.measure(1, 1);
        desk.box(0);
        Check.lines(desk, 1);
        Check.due("badness 10000 with LINE -10000, and ADJACENT", desk.about(2), 10000);
    }

    private static long demeritsWithLine(int line) {
        LineDesk desk = new LineDesk();
        desk.rule(2, line);
        desk.box(0);
        Check.lines(desk, 1);
        return desk.about(2);
    }

    private static void hyphenAndBare() {
        Check.due("HYPHEN 7", demeritsAtCut(1, 3, 7), 49);
        Check.due("BARE is not asked", demeritsAtCut(1, 4, 7), 2500);
        Check.due("BARE 7", demeritsAtCut(0, 4, 7), 49);
        Check.due("HYPHEN is not asked", demeritsAtCut(0, 3, 7), 2500);
        Check.due("flag 2 is BARE", demeritsAtCut(2, 4, 9), 81);
        Check.due("HYPHEN -7", demeritsAtCut(1, 3, -7), -49);
        Check.due("HYPHEN 10000", demeritsAtCut(1, 3, 10000), 100000000);
        Check.due("HYPHEN -9999", demeritsAtCut(1, 3, -9999), -9999L * 9999);
        Check.due("HYPHEN -10000", demeritsAtCut(1, 3, -10000), 0);
    }

    private static long demeritsAtCut(int flags, int which, int v) {
        LineDesk desk = new LineDesk();
        desk.rule(2, 0);
        desk.rule(7, 0);
        desk.rule(which, v);
        desk.measure(1, 10);
        desk.box(10);
        desk.cut(0, 0, 0, flags);
        desk.box(10);
        Check.lines(desk, 2);
        return desk.about(2);
    }

    private static void adjacentTwiceFinal() {
        Check.due("with nothing", demeritsOfThree(0, 0, 0), 3 * 100 + 2 * 2500);
        Check.due("with TWICE", demeritsOfThree(0, 1000000000, 0), 5300 + 1000000000);
        Check.due("with FINAL", demeritsOfThree(0, 0, -1000000000), 5300 - 1000000000);
        LineDesk desk = new LineDesk();
        desk.rule(5, -3000);
        desk.measure(1, 1);
        desk.box(0);
        Check.lines(desk, 1);
        Check.due("with ADJACENT", desk.about(2), 100000000 - 3000);
    }

    private static long demeritsOfThree(int adjacent, int twice, int last) {
        LineDesk desk = new LineDesk();
        desk.rule(5, adjacent);
        desk.rule(6, twice);
        desk.rule(7, last);
        desk.measure(1, 10);
        desk.box(10);
        desk.cut(0, 0, 0, 1);
        desk.box(10);
        desk.cut(0, 0, 0, 0);
        desk.box(10);
        Check.lines(desk, 3);
        return desk.about(2);
    }

    /** Three words of 10 with much stretch: 1, 2 or 3 lines can be made. */
    private static void looseness() {
        int[][] asked = {{0, 1}, {1, 2}, {2, 3}, {3, 3}, {10000, 3}, {-1, 1}, {-10000, 1}};
        for (int[] row : asked) {
            LineDesk desk = new LineDesk();
            desk.rule(0, 10000);
            desk.rule(8, row[0]);
            desk.measure(1, 30);
            desk.box(10);
            for (int i = 0; i < 2; i++) {
                desk.glue(0, 1, 0, 0);
                desk.box(10);
            }
            Check.lines(desk, row[1]);
            Check.due("lines with LOOSENESS " + row[0], desk.about(1), row[1]);
        }
        loosenessDown();
        loosenessWithoutAWay();
    }

    private static void loosenessDown() {
        LineDesk desk = new LineDesk();
        desk.rule(0, 10000);
        desk.measure(1, 10);
        desk.box(10);
        for (int i = 0; i < 2; i++) {
            desk.glue(0, 0, 0, 10);
            desk.box(10);
        }
        Check.lines(desk, 3);
        desk.rule(8, -1);
        Check.lines(desk, 2);
        desk.rule(8, -2);
        Check.lines(desk, 1);
        desk.rule(8, -3);
        Check.lines(desk, 1);
    }

    /** A forced break and no other one: there is no other number of lines. */
    private static void loosenessWithoutAWay() {
        LineDesk desk = new LineDesk();
        desk.measure(1, 10);
        desk.box(10);
        desk.penalty(-10000);
        desk.box(10);
        desk.rule(8, 5);
        Check.lines(desk, 2);
        desk.rule(8, -5);
        Check.lines(desk, 2);
    }
}
