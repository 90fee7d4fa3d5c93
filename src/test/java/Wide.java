/**
 * A desk on which every line fits with badness 0, whatever it holds: its first pass has all ways
 * there are. So LOOSENESS 10000 takes every break, and LOOSENESS -10000 the forced ones alone.
 */
final class Wide {
    private Wide() {
    }

    static LineDesk desk() {
        LineDesk desk = new LineDesk();
        desk.rule(2, 0);
        desk.rule(6, 0);
        desk.rule(7, 0);
        desk.measure(1, 1000000);
        desk.skip(0, 0, 1, 1, 0);
        return desk;
    }

    /** An item of a kind that is no break of itself: b box, g glue, k kern, p penalty, c cut. */
    static int item(LineDesk desk, char kind) {
        return switch (kind) {
            case 'b' -> desk.box(1);
            case 'g' -> desk.glue(1, 1, 0, 1);
            case 'k' -> desk.kern(1);
            case 'p' -> desk.penalty(10000);
            default -> desk.cut(1, 1, 1, 0);
        };
    }

    static void items(LineDesk desk, String kinds) {
        for (char kind : kinds.toCharArray()) {
            item(desk, kind);
        }
    }

    /** So that lines() finds its way in this pass. */
    static void onlyFromPass(LineDesk desk, int pass) {
        desk.rule(0, pass > 1 ? -1 : 100);
        desk.rule(1, pass > 2 ? -1 : 200);
    }

    static void checkAllBreaks(LineDesk desk, int... want) {
        desk.rule(8, 10000);
        Check.lines(desk, want.length);
        Check.column(desk, 1, want);
    }

    static void checkForced(LineDesk desk, int... want) {
        desk.rule(8, -10000);
        Check.lines(desk, want.length);
        Check.column(desk, 1, want);
    }
}
