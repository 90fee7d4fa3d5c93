import java.util.Random;

/** Random paragraphs of some dozens of words, their lines compared with those of the reference. */
public final class LongWayTest {
    private final Random random;
    private final LineDesk desk = new LineDesk();
    private final Reference reference = new Reference();
    private final String told;

    private LongWayTest(long seed) {
        random = new Random(seed);
        told = "seed " + seed;
    }

    private int pick(int... from) {
        return from[random.nextInt(from.length)];
    }

    private boolean once(int in) {
        return random.nextInt(in) == 0;
    }

    private void rule(int which, int v) {
        desk.rule(which, v);
        reference.rule(which, v);
    }

    private void setRules() {
        if (once(2)) {
            rule(0, pick(-1, 0, 12, 1000, 10000));
        }
        if (once(2)) {
            rule(1, pick(-1, 50, 1000, 10000));
        }
        if (once(4)) {
            rule(pick(2, 3, 4), pick(-100, -50, 0, 1, 100));
        }
        if (once(4)) {
            rule(pick(5, 6, 7), pick(-3000, 0, 1, 1000000));
        }
    }

    /** Few measures, or more than there will be lines. */
    private void setMeasures() {
        int wide = pick(40, 60, 100, 160);
        int count = pick(1, 1, 2, 3, 7, 60);
        for (int k = 1; k <= count; k++) {
            int width = wide + pick(0, 0, 5, -5, 10);
            desk.measure(k, width);
            reference.measure(k, width);
        }
    }

    /** With a stretch in a skip all lines that fit are alike, so that only their number decides. */
    private void setSkip() {
        if (once(4)) {
            desk.skip(1, 0, 1, 1, 0);
            reference.skip(1, 0, 1, 1, 0);
            rule(2, 0);
        }
    }

    private void box(int width) {
        desk.box(width);
        reference.box(width);
    }

    private void glue(int width, int stretch, int order, int shrink) {
        desk.glue(width, stretch, order, shrink);
        reference.glue(width, stretch, order, shrink);
    }

    private void cut(int ahead, int behind, int uncut, int flags) {
        desk.cut(ahead, behind, uncut, flags);
        reference.cut(ahead, behind, uncut, flags);
    }

    private void penalty(int p) {
        desk.penalty(p);
        reference.penalty(p);
    }

    /** Words alike make ways alike, so that the later steps of what is better decide. */
    private void setWords() {
        boolean alike = once(3);
        for (int words = 12 + random.nextInt(24); words > 0; words--) {
            box(alike ? 10 : 4 + random.nextInt(16));
            if (once(3)) {
                cut(pick(0, 3), pick(0, 0, 1), pick(0, 0, 2), pick(0, 1, 5, 5, 7));
                box(alike ? 10 : 4 + random.nextInt(16));
            }
            if (once(30)) {
                penalty(pick(-10000, -50, 50, 10000));
            }
            if (once(30)) {
                desk.kern(2);
                reference.kern(2);
            }
            glue(4, 2, 0, 1);
        }
        penalty(10000);
        glue(0, 1, 1, 0);
    }

    private void checkLines() {
        Check.due(told + " lines", desk.lines(), reference.lines());
        for (int what = 0; what <= 5; what++) {
            Check.due(told + " about " + what, desk.about(what), reference.about(what));
        }
        for (int k = 1; k <= reference.about(1); k++) {
            for (int what = 0; what <= 4; what++) {
                int line = k;
                int w = what;
                Check.due(told + " line " + k + " " + what,
                    Check.answer(() -> desk.line(line, w)), reference.line(k, what));
            }
        }
    }

    private void run() {
        setRules();
        setMeasures();
        setSkip();
        setWords();
        checkLines();
        rule(8, pick(1, -1, 2, -2, 5, 10000, -10000));
        checkLines();
    }

    public static void main(String[] args) {
        int runs = args.length > 0 ? Integer.parseInt(args[0]) : 400;
        long first = args.length > 1 ? Long.parseLong(args[1]) : 1;
        for (long seed = first; seed < first + runs; seed++) {
            new LongWayTest(seed).run();
        }
        Check.end();
    }
}
