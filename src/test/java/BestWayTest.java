import java.util.Random;

/** Random runs of calls, each answer compared with what trying every way says. */
public final class BestWayTest {
    private final Random random;
    private final LineDesk desk = new LineDesk();
    private final Reference reference = new Reference();
    private final int scale;
    private final StringBuilder told = new StringBuilder();

    private BestWayTest(long seed) {
        random = new Random(seed);
        int[] scales = {1, 1, 2, 5, 12, 200000000};
        scale = scales[random.nextInt(scales.length)];
        told.append("seed ").append(seed).append(':');
    }

    private int pick(int... from) {
        return from[random.nextInt(from.length)];
    }

    private int width() {
        int w = random.nextInt(8) == 0 ? -random.nextInt(4) : random.nextInt(6);
        return random.nextInt(60) == 0 ? pick(1073741823, -1073741823, 1073741824, -1073741824) : w * scale;
    }

    private int give() {
        int g = random.nextInt(3) * scale;
        return random.nextInt(80) == 0 ? pick(1073741823, 1073741824, -1) : g;
    }

    private int order() {
        return random.nextInt(6) != 0 ? 0 : pick(0, 1, 2, 3, 3, 4, -1);
    }

    private void check(String call, long got, long want) {
        told.append(' ').append(call);
        Check.due(told.toString(), got, want);
    }

    private void checkRule() {
        int which = random.nextInt(40) == 0 ? pick(-1, 9, 100) : random.nextInt(9);
        int v = switch (which) {
            case 0, 1 -> pick(-1, 0, 5, 12, 13, 50, 100, 200, 2000, 10000);
            case 2 -> pick(0, 1, 10, -20, -10000, 10000, 5000, -5000);
            case 3, 4 -> pick(0, 1, 50, -50, 10000, -10000, 9999, -9999, 10001, -10001);
            case 8 -> pick(0, 0, 0, 1, -1, 2, -2, 3, 10000, -10000, 10001);
            default -> pick(0, 1, 100, -100, 10000, -3000, 1000000000, -1000000000, 1000000001);
        };
        check("rule(" + which + "," + v + ")", desk.rule(which, v) ? 1 : 0, reference.rule(which, v) ? 1 : 0);
    }

    private void checkMeasure() {
        int k = random.nextInt(20) == 0 ? pick(0, -1, 9, 300) : 1 + random.nextInt(4);
        int w = random.nextInt(20) == 0 ? width() : (4 + random.nextInt(14)) * scale;
        check("measure(" + k + "," + w + ")", desk.measure(k, w) ? 1 : 0, reference.measure(k, w) ? 1 : 0);
    }

    private void checkSkip() {
        int side = random.nextInt(10) == 0 ? pick(-1, 2) : random.nextInt(2);
        int w = random.nextInt(2) == 0 ? 0 : width();
        int st = give();
        int o = order();
        int sh = give();
        check("skip(" + side + "," + w + "," + st + "," + o + "," + sh + ")",
            desk.skip(side, w, st, o, sh) ? 1 : 0, reference.skip(side, w, st, o, sh) ? 1 : 0);
    }

    private void checkItem() {
        switch (random.nextInt(12)) {
            case 0, 1, 2, 3 -> {
                int w = width();
                check("box(" + w + ")", desk.box(w), reference.box(w));
            }
            case 4, 5, 6, 7 -> {
                int w = width();
                int st = give();
                int o = order();
                int sh = give();
                check("glue(" + w + "," + st + "," + o + "," + sh + ")",
                    desk.glue(w, st, o, sh), reference.glue(w, st, o, sh));
            }
            case 8 -> {
                int w = width();
                check("kern(" + w + ")", desk.kern(w), reference.kern(w));
            }
            case 9 -> {
                int p = pick(0, 1, -1, 50, -50, 9999, 10000, 20000, -9999, -10000, -20000, Integer.MIN_VALUE);
                check("penalty(" + p + ")", desk.penalty(p), reference.penalty(p));
            }
            default -> {
                int a = width();
                int b = width();
                int u = width();
                int f = random.nextInt(30) == 0 ? pick(-1, 8) : random.nextInt(8);
                check("cut(" + a + "," + b + "," + u + "," + f + ")", desk.cut(a, b, u, f), reference.cut(a, b, u, f));
            }
        }
    }

    private void checkLines() {
        check("lines()", Check.answer(desk::lines), Check.answer(reference::lines));
        checkAnswers();
    }

    private void checkAnswers() {
        for (int what = -1; what <= 6; what++) {
            Check.due(told + " about " + what, desk.about(what), reference.about(what));
        }
        for (int k = 0; k <= reference.about(1) + 1; k++) {
            for (int what = -1; what <= 5; what++) {
                int line = k;
                int w = what;
                Check.due(told + " line " + k + " " + what,
                    Check.answer(() -> desk.line(line, w)), Check.answer(() -> reference.line(line, w)));
            }
        }
    }

    private void run() {
        for (int n = random.nextInt(6); n > 0; n--) {
            checkRule();
        }
        for (int n = random.nextInt(5); n > 0; n--) {
            checkMeasure();
        }
        if (random.nextInt(4) == 0) {
            checkSkip();
        }
        for (int round = 0; round < 3; round++) {
            for (int n = 2 + random.nextInt(20); n > 0 && reference.countBreaks() < Reference.MOST_TRIED; n--) {
                checkItem();
            }
            checkLines();
            checkRule();
            checkAnswers();
            checkLines();
            if (random.nextInt(2) == 0) {
                desk.clear();
                reference.clear();
                told.append(" clear()");
                checkAnswers();
            }
            if (random.nextInt(3) == 0) {
                checkMeasure();
            }
        }
    }

    public static void main(String[] args) {
        int runs = args.length > 0 ? Integer.parseInt(args[0]) : 2500;
        long first = args.length > 1 ? Long.parseLong(args[1]) : 1;
        for (long seed = first; seed < first + runs; seed++) {
            new BestWayTest(seed).run();
        }
        Check.end();
    }
}
