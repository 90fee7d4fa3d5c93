/** Promises 5 to 9: box, glue, kern, penalty, cut. */
public final class ItemsTest {
    private static final int MAX = 1073741823;

    public static void main(String[] args) {
        boxAnswers();
        glueAnswers();
        kernAnswers();
        penaltyAnswers();
        cutAnswers();
        numbersGoOn();
        boxes();
        glues();
        kerns();
        penalties();
        cuts();
        automaticCuts();
        linesBegin();
        wideSums();
        Check.end();
    }

    private static void boxAnswers() {
        LineDesk desk = new LineDesk();
        Check.due("box(MAX)", desk.box(MAX), 0);
        Check.due("box(MAX + 1)", desk.box(MAX + 1), LineDesk.NONE);
        Check.due("box(-MAX)", desk.box(-MAX), 1);
        Check.due("box(-MAX - 1)", desk.box(-MAX - 1), LineDesk.NONE);
        Check.due("box(lowest)", desk.box(Integer.MIN_VALUE), LineDesk.NONE);
        Check.due("items", desk.about(5), 2);
    }

    private static void glueAnswers() {
        LineDesk desk = new LineDesk();
        Check.due("most", desk.glue(MAX, MAX, 3, MAX), 0);
        Check.due("least", desk.glue(-MAX, 0, 0, 0), 1);
        Check.due("too wide", desk.glue(MAX + 1, 0, 0, 0), LineDesk.NONE);
        Check.due("too narrow", desk.glue(-MAX - 1, 0, 0, 0), LineDesk.NONE);
        Check.due("stretch below 0", desk.glue(0, -1, 0, 0), LineDesk.NONE);
        Check.due("too much stretch", desk.glue(0, MAX + 1, 0, 0), LineDesk.NONE);
        Check.due("order -1", desk.glue(0, 0, -1, 0), LineDesk.NONE);
        Check.due("order 4", desk.glue(0, 0, 4, 0), LineDesk.NONE);
        Check.due("shrink below 0", desk.glue(0, 0, 0, -1), LineDesk.NONE);
        Check.due("too much shrink", desk.glue(0, 0, 0, MAX + 1), LineDesk.NONE);
        Check.due("items", desk.about(5), 2);
    }

    private static void kernAnswers() {
        LineDesk desk = new LineDesk();
        Check.due("kern(-MAX)", desk.kern(-MAX), 0);
        Check.due("kern(MAX)", desk.kern(MAX), 1);
        Check.due("kern(MAX + 1)", desk.kern(MAX + 1), LineDesk.NONE);
        Check.due("kern(-MAX - 1)", desk.kern(-MAX - 1), LineDesk.NONE);
        Check.due("items", desk.about(5), 2);
    }

    private static void penaltyAnswers() {
        LineDesk desk = new LineDesk();
        Check.due("penalty(0)", desk.penalty(0), 0);
        Check.due("penalty(highest)", desk.penalty(Integer.MAX_VALUE), 1);
        Check.due("penalty(lowest)", desk.penalty(Integer.MIN_VALUE), 2);
        Check.due("items", desk.about(5), 3);
    }

    private static void cutAnswers() {
        LineDesk desk = new LineDesk();
        for (int flags = 0; flags <= 7; flags++) {
            Check.due("flags " + flags, desk.cut(MAX, -MAX, MAX, flags), flags);
        }
        Check.due("flags 8", desk.cut(0, 0, 0, 8), LineDesk.NONE);
        Check.due("flags -1", desk.cut(0, 0, 0, -1), LineDesk.NONE);
        Check.due("ahead too wide", desk.cut(MAX + 1, 0, 0, 0), LineDesk.NONE);
        Check.due("behind too narrow", desk.cut(0, -MAX - 1, 0, 0), LineDesk.NONE);
        Check.due("uncut too wide", desk.cut(0, 0, MAX + 1, 0), LineDesk.NONE);
        Check.due("items", desk.about(5), 8);
    }

    private static void numbersGoOn() {
        LineDesk desk = new LineDesk();
        for (int i = 0; i < 500; i += 5) {
            Check.due("box", desk.box(1), i);
            Check.due("glue", desk.glue(1, 1, 0, 1), i + 1);
            Check.due("kern", desk.kern(1), i + 2);
            Check.due("penalty", desk.penalty(10000), i + 3);
            Check.due("cut", desk.cut(1, 1, 1, 7), i + 4);
        }
        Check.due("items", desk.about(5), 500);
    }

    private static void boxes() {
        LineDesk desk = new LineDesk();
        desk.measure(1, 5);
        desk.box(10);
        desk.box(-2);
        Check.lines(desk, 1);
        Check.line(desk, 1, 0, 2, 10000, 3, 3);
    }

    /** A break at glue behind a box or a cut, at no other glue; its width is in no line then. */
    private static void glues() {
        Check.due("behind a box", breaksAtGlueBehind('b'), true);
        Check.due("behind a cut", breaksAtGlueBehind('c'), true);
        Check.due("behind glue", breaksAtGlueBehind('g'), false);
        Check.due("behind a kern", breaksAtGlueBehind('k'), false);
        Check.due("behind a penalty", breaksAtGlueBehind('p'), false);
        LineDesk desk = new LineDesk();
        desk.measure(1, 10);
        desk.glue(4, 0, 0, 0);
        desk.box(6);
        desk.glue(7, 0, 0, 0);
        desk.box(10);
        Check.lines(desk, 2);
        Check.line(desk, 1, 0, 2, 0, 2, 0);
        Check.line(desk, 2, 3, 4, 0, 2, 0);
        glueGives();
    }

    private static boolean breaksAtGlueBehind(char kind) {
        LineDesk desk = new LineDesk();
        desk.rule(4, 10000);
        desk.measure(1, 10);
        desk.box(10);
        if (kind == 'b') {
            desk.box(0);
        } else if (kind == 'c') {
            desk.cut(0, 0, 0, 0);
        } else if (kind == 'g') {
            desk.penalty(10000);
            desk.glue(0, 0, 0, 0);
        } else if (kind == 'k') {
            desk.penalty(10000);
            desk.box(-1);
            desk.kern(1);
        } else {
            desk.penalty(10000);
        }
        int glue = desk.glue(0, 0, 0, 0);
        desk.box(10);
        desk.lines();
        return desk.line(1, 1) == glue;
    }

    private static void glueGives() {
        LineDesk desk = new LineDesk();
        desk.measure(1, 20);
        desk.box(5);
        desk.penalty(10000);
        desk.glue(5, 10, 0, 3);
        desk.box(5);
        Check.lines(desk, 1);
        Check.line(desk, 1, 0, 4, 12, 2, 0);
        desk.box(5);
        Check.lines(desk, 1);
        Check.line(desk, 1, 0, 5, 0, 2, 0);
        desk.box(2);
        Check.lines(desk, 1);
        Check.line(desk, 1, 0, 6, 30, 3, 0);
        desk.box(2);
        Check.lines(desk, 1);
        Check.line(desk, 1, 0, 7, 10000, 3, 1);
        for (int order = 1; order <= 3; order++) {
            desk.clear();
            desk.glue(0, 1, order, 0);
            Check.lines(desk, 1);
            Check.line(desk, 1, 0, 1, 0, 2, 0);
        }
    }

    /** A break at a kern with glue behind it, at no other kern. */
    private static void kerns() {
        LineDesk desk = new LineDesk();
        desk.measure(1, 10);
        desk.box(10);
        desk.kern(3);
        desk.glue(4, 0, 0, 0);
        desk.box(10);
        Check.lines(desk, 2);
        Check.line(desk, 1, 0, 1, 0, 2, 0);
        Check.line(desk, 2, 3, 4, 0, 2, 0);
        desk.clear();
        desk.box(10);
        desk.kern(3);
        desk.box(10);
        desk.kern(1);
        Check.lines(desk, 1);
        Check.line(desk, 1, 0, 4, 10000, 3, 14);
        desk.clear();
        desk.kern(3);
        desk.glue(4, 0, 0, 0);
        desk.box(10);
        Check.lines(desk, 2);
        Check.line(desk, 1, 0, 0, 10000, 0, 0);
        Check.line(desk, 2, 2, 3, 0, 2, 0);
    }

    private static void penalties() {
        Check.due("demerits of penalty 7", demeritsOfPenalty(7, 2), 49);
        Check.due("demerits of penalty 0", demeritsOfPenalty(0, 2), 0);
        Check.due("demerits of penalty -7", demeritsOfPenalty(-7, 2), -49);
        Check.due("demerits of penalty 9999", demeritsOfPenalty(9999, 2), 9999L * 9999);
        Check.due("demerits of penalty -9999", demeritsOfPenalty(-9999, 2), -9999L * 9999);
        Check.due("demerits of penalty -10000", demeritsOfPenalty(-10000, 2), 0);
        Check.due("demerits of penalty -10001", demeritsOfPenalty(-10001, 2), 0);
        Check.due("no break at penalty 10000", demeritsOfPenalty(10000, 1), 100000000);
        Check.due("no break at penalty 10001", demeritsOfPenalty(10001, 1), 100000000);
        LineDesk desk = new LineDesk();
        desk.measure(1, 40);
        desk.box(10);
        desk.penalty(-20000);
        desk.penalty(-10000);
        desk.box(10);
        Check.lines(desk, 3);
        Check.line(desk, 1, 0, 1, 10000, 0, 0);
        Check.line(desk, 2, 2, 2, 10000, 0, 0);
        Check.line(desk, 3, 3, 4, 10000, 0, 0);
    }

    private static long demeritsOfPenalty(int p, int lines) {
        LineDesk desk = new LineDesk();
        desk.rule(2, 0);
        desk.measure(1, 10);
        desk.box(10);
        desk.penalty(p);
        desk.box(10);
        Check.lines(desk, lines);
        return desk.about(2);
    }

    /** AHEAD is in the line up to the cut, BEHIND in the next, UNCUT in one that goes on. */
    private static void cuts() {
        LineDesk desk = new LineDesk();
        desk.rule(3, -10000);
        desk.measure(1, 0);
        desk.box(100);
        desk.cut(20, 3, 7, 1);
        desk.kern(1);
        desk.box(200);
        Check.lines(desk, 2);
        Check.line(desk, 1, 0, 1, 10000, 3, 120);
        Check.line(desk, 2, 3, 4, 10000, 3, 203);
        desk.cut(20, 4, 7, 3);
        desk.kern(1);
        desk.box(300);
        Check.lines(desk, 3);
        Check.line(desk, 2, 3, 4, 10000, 3, 223);
        Check.line(desk, 3, 5, 7, 10000, 3, 305);
        desk.clear();
        desk.measure(1, 1000);
        desk.box(100);
        desk.cut(20, 3, 7, 0);
        desk.box(1000);
        desk.rule(4, 10000);
        Check.lines(desk, 2);
        Check.line(desk, 1, 0, 1, 10000, 0, 0);
        Check.line(desk, 2, 2, 3, 10000, 3, 3);
        desk.measure(1, 1100);
        desk.rule(8, -1);
        Check.lines(desk, 1);
        Check.line(desk, 1, 0, 3, 10000, 3, 7);
        desk.measure(1, 1107);
        Check.lines(desk, 1);
        Check.line(desk, 1, 0, 3, 0, 2, 0);
    }

    /** An automatic cut is a break in the passes 2 and 3 alone, forced or not. */
    private static void automaticCuts() {
        for (int flags = 0; flags <= 7; flags++) {
            LineDesk desk = new LineDesk();
            desk.rule(3, -10000);
            desk.rule(4, -10000);
            desk.measure(1, 20);
            desk.box(10);
            desk.cut(10, 10, 0, flags);
            desk.box(10);
            boolean automatic = (flags & 4) != 0;
            Check.lines(desk, automatic ? 1 : 2);
            desk.rule(0, -1);
            Check.lines(desk, 2);
            Check.due("pass", desk.about(0), 2);
        }
    }

    private static void linesBegin() {
        LineDesk desk = new LineDesk();
        desk.glue(1, 0, 0, 0);
        desk.penalty(-10000);
        desk.glue(2, 0, 0, 0);
        desk.kern(3);
        desk.penalty(10000);
        desk.cut(0, 0, 40, 4);
        desk.glue(5, 0, 0, 0);
        desk.penalty(-10000);
        desk.glue(6, 0, 0, 0);
        desk.penalty(-10000);
        desk.kern(7);
        Check.lines(desk, 5);
        Check.line(desk, 1, 0, 1, 10000, 3, 1);
        Check.line(desk, 2, 5, 5, 0, 2, 0);
        Check.line(desk, 3, 7, 7, 0, 2, 0);
        Check.line(desk, 4, 9, 9, 0, 2, 0);
        Check.line(desk, 5, 11, 11, 0, 2, 0);
    }

    private static void wideSums() {
        LineDesk desk = new LineDesk();
        for (int i = 0; i < 5; i++) {
            desk.box(MAX);
        }
        Check.lines(desk, 1);
        Check.line(desk, 1, 0, 5, 10000, 3, Integer.MAX_VALUE);
        Check.due("about(3)", desk.about(3), 5L * MAX);
        desk.glue(0, 0, 0, MAX);
        desk.penalty(10000);
        desk.glue(0, 0, 0, MAX);
        desk.box(0);
        desk.rule(8, -1);
        Check.lines(desk, 1);
        Check.due("about(3)", desk.about(3), 3L * MAX);
    }
}
