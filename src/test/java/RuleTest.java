/** Promise 2: rule. What each number does stands in the tests of the terms. */
public final class RuleTest {
    private static final String[] NAMES = {
        "PRETOLERANCE", "TOLERANCE", "LINE", "HYPHEN", "BARE", "ADJACENT", "TWICE", "FINAL", "LOOSENESS"};

    public static void main(String[] args) {
        Check.sentence("which 0 PRETOLERANCE", RuleTest::setsPretolerance);
        Check.sentence("1 TOLERANCE", RuleTest::setsTolerance);
        Check.sentence("2 LINE", RuleTest::setsLine);
        Check.sentence("3 HYPHEN, 4 BARE", RuleTest::setsHyphenAndBare);
        Check.sentence("5 ADJACENT", RuleTest::setsAdjacent);
        Check.sentence("6 TWICE, 7 FINAL", RuleTest::setsTwiceAndFinal);
        Check.sentence("8 LOOSENESS", RuleTest::setsLooseness);
        for (int which = 0; which <= 8; which++) {
            int w = which;
            int most = which >= 5 && which <= 7 ? 1000000000 : 10000;
            Check.sentence(NAMES[which] + " from " + -most + " to " + most, () -> bounds(w, most));
        }
        Check.sentence("False, changing nothing, if there is no such which", RuleTest::noSuchWhich);
        Check.sentence("A number is set: it stays until it is set again", RuleTest::setAgain);
        Check.end();
    }

    private static void bounds(int which, int most) {
        for (int v : new int[] {most, most - 1, 0, 1 - most, -most}) {
            LineDesk desk = new LineDesk();
            Check.due(NAMES[which] + " " + v, desk.rule(which, v), true);
            Check.due(NAMES[which] + " " + v + " again", desk.rule(which, v), true);
        }
        for (int v : new int[] {most + 1, -most - 1, Integer.MAX_VALUE, Integer.MIN_VALUE}) {
            Twins.refused(NAMES[which] + " " + v, desk -> desk.rule(which, v) ? 1 : 0, 0);
        }
    }

    private static void noSuchWhich() {
        for (int which : new int[] {-1, 9, Integer.MIN_VALUE, Integer.MAX_VALUE}) {
            for (int v : new int[] {0, 5, -7}) {
                Twins.refused("rule(" + which + ", " + v + ")", desk -> desk.rule(which, v) ? 1 : 0, 0);
            }
        }
    }

    /** One line of badness 100. */
    private static LineDesk hundred() {
        LineDesk desk = new LineDesk();
        desk.measure(1, 297);
        desk.glue(0, 297, 0, 0);
        return desk;
    }

    private static void setsPretolerance() {
        LineDesk desk = hundred();
        int[][] passes = {{10000, 1}, {100, 1}, {99, 2}, {0, 2}, {-1, 2}, {-10000, 2}};
        for (int[] row : passes) {
            Check.due("rule", desk.rule(0, row[0]), true);
            Check.lines(desk, 1);
            Check.due("pass with PRETOLERANCE " + row[0], desk.about(0), row[1]);
        }
    }

    private static void setsTolerance() {
        LineDesk desk = hundred();
        desk.rule(0, -1);
        int[][] passes = {{10000, 2, 0}, {100, 2, 0}, {99, 3, 1}, {-10000, 3, 1}};
        for (int[] row : passes) {
            Check.due("rule", desk.rule(1, row[0]), true);
            Check.lines(desk, 1);
            Check.due("pass with TOLERANCE " + row[0], desk.about(0), row[1]);
            Check.due("lines above TOLERANCE " + row[0], desk.about(4), row[2]);
        }
    }

    private static void setsLine() {
        int[] numbers = {10000, 9999, 7, 0, -7, -9999, -10000};
        long[] demerits = {100000000, 99980001, 49, 0, 49, 99980001, 100000000};
        LineDesk desk = new LineDesk();
        desk.box(0);
        for (int i = 0; i < numbers.length; i++) {
            desk.rule(2, numbers[i]);
            Check.lines(desk, 1);
            Check.due("demerits with LINE " + numbers[i], desk.about(2), demerits[i]);
        }
    }

    private static void setsHyphenAndBare() {
        int[] numbers = {10000, 9999, 1, 0, -1, -9999, -10000};
        long[] demerits = {100000000, 99980001, 1, 0, -1, -99980001, 0};
        for (int which = 3; which <= 4; which++) {
            LineDesk desk = Wide.desk();
            desk.rule(8, 1);
            desk.rule(7 - which, 77);
            desk.cut(0, 0, 0, 4 - which);
            for (int i = 0; i < numbers.length; i++) {
                desk.rule(8, numbers[i] < 0 ? 0 : 1);
                desk.rule(which, numbers[i]);
                Check.lines(desk, 2);
                Check.due("demerits with " + NAMES[which] + " " + numbers[i], desk.about(2), demerits[i]);
            }
        }
    }

    private static void setsAdjacent() {
        LineDesk desk = hundred();
        for (int v : new int[] {1000000000, 1, 0, -1, -1000000000}) {
            desk.rule(5, v);
            Check.lines(desk, 1);
            Check.due("demerits with ADJACENT " + v, desk.about(2), 110L * 110 + v);
        }
    }

    private static void setsTwiceAndFinal() {
        for (int v : new int[] {1000000000, 1, 0, -1, -1000000000}) {
            LineDesk desk = new LineDesk();
            desk.measure(1, 10);
            desk.box(10);
            desk.cut(0, 0, 0, 1);
            desk.box(10);
            desk.cut(0, 0, 0, 0);
            desk.box(10);
            desk.rule(6, v);
            Check.lines(desk, 3);
            Check.due("demerits with TWICE " + v, desk.about(2), 300 + 5000 + 5000L + v);
            desk.rule(6, 3);
            desk.rule(7, v);
            Check.lines(desk, 3);
            Check.due("demerits with FINAL " + v, desk.about(2), 300 + 5000 + 3L + v);
        }
    }

    private static void setsLooseness() {
        LineDesk desk = Wide.desk();
        for (int cost : new int[] {-5, 5, -5, 5}) {
            desk.penalty(cost);
        }
        int[][] lines = {{10000, 5}, {3, 5}, {2, 5}, {1, 4}, {0, 3}, {-1, 2}, {-2, 1}, {-3, 1}, {-10000, 1}};
        for (int[] row : lines) {
            desk.rule(8, row[0]);
            Check.lines(desk, row[1]);
        }
    }

    private static void setAgain() {
        LineDesk desk = new LineDesk();
        desk.rule(2, 30);
        desk.rule(2, 31);
        desk.box(0);
        Check.lines(desk, 1);
        desk.clear();
        desk.box(0);
        Check.lines(desk, 1);
        Check.about(desk, 1, 1, 31 * 31);
    }
}
