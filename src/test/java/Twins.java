import java.util.function.ToLongFunction;

/**
 * Two desks made alike, one of which is then asked for something that is refused: all that can be
 * seen of them from then on must be the same.
 */
final class Twins {
    private Twins() {
    }

    /** The refused call answers so, and leaves the desk as it was. */
    static void refused(String what, ToLongFunction<LineDesk> call, long want) {
        LineDesk touched = make();
        Check.due(what, Check.answer(() -> call.applyAsLong(touched)), want);
        Check.due("left by " + what, seen(touched), seen(make()));
        LineDesk fresh = new LineDesk();
        Check.due(what + " of a new object", Check.answer(() -> call.applyAsLong(fresh)), want);
        Check.due("left of a new object by " + what, seen(fresh), seen(new LineDesk()));
    }

    /** A desk with nothing as it is in a new one, lines made, and other items since. */
    static LineDesk make() {
        LineDesk desk = new LineDesk();
        int[] rules = {40, 300, 7, 31, -33, 20001, 30002, -4003, 1};
        for (int which = 0; which < rules.length; which++) {
            desk.rule(which, rules[which]);
        }
        desk.measure(1, 60);
        desk.measure(2, 52);
        desk.measure(3, 47);
        desk.skip(0, 1, 2, 0, 1);
        desk.skip(1, 2, 3, 0, 2);
        text(desk);
        desk.penalty(-10000);
        desk.box(90);
        desk.lines();
        desk.clear();
        text(desk);
        desk.kern(3);
        return desk;
    }

    private static void text(LineDesk desk) {
        for (int i = 0; i < 7; i++) {
            desk.box(6 + i * 5 % 7);
            desk.cut(2, 1, i % 2, i);
            desk.box(5);
            desk.glue(3, 2, 0, 1);
        }
    }

    /** All that a run of calls shows: lines made, items and each setting. */
    private static String seen(LineDesk desk) {
        StringBuilder text = new StringBuilder();
        tell(desk, text);
        text.append(" lines ").append(Check.answer(desk::lines));
        tell(desk, text);
        text.append(" next ").append(desk.box(4));
        desk.lines();
        tell(desk, text);
        desk.clear();
        eachBadness(desk, text);
        eachMeasure(desk, text);
        eachCut(desk, text);
        return text.toString();
    }

    private static void tell(LineDesk desk, StringBuilder text) {
        for (int what = 0; what <= 5; what++) {
            text.append(" a").append(desk.about(what));
        }
        for (int k = 1; k <= desk.about(1); k++) {
            for (int what = 0; what <= 4; what++) {
                text.append(' ').append(desk.line(k, what));
            }
        }
    }

    /** Shows the tolerances by the pass, LINE and ADJACENT by the demerits. */
    private static void eachBadness(LineDesk desk, StringBuilder text) {
        for (int stretch = 20; stretch <= 200; stretch += 30) {
            desk.clear();
            desk.glue(0, stretch, 0, 0);
            desk.lines();
            text.append(" p").append(desk.about(0)).append(' ').append(desk.about(2)).append(' ').append(desk.about(4));
        }
    }

    /** Shows measures and skips by what sticks out. */
    private static void eachMeasure(LineDesk desk, StringBuilder text) {
        desk.clear();
        for (int k = 1; k <= 5; k++) {
            desk.box(1000);
            desk.penalty(-10000);
        }
        desk.lines();
        tell(desk, text);
    }

    /** Shows HYPHEN, BARE, TWICE and FINAL by the demerits, LOOSENESS by the lines. */
    private static void eachCut(LineDesk desk, StringBuilder text) {
        for (int flags = 0; flags <= 1; flags++) {
            desk.clear();
            for (int i = 0; i < 9; i++) {
                desk.cut(0, 0, 0, flags);
                desk.box(50);
            }
            desk.lines();
            tell(desk, text);
        }
    }
}
