/** What the tests share: compares answers with those that are due, and ends the program. */
final class Check {
    interface Call {
        long answer();
    }

    static final long STATE = Long.MIN_VALUE + 1;
    static final long INDEX = Long.MIN_VALUE + 2;
    static final int WIDEST = 1073741823;

    private static int wrong = 0;
    private static int done = 0;

    private Check() {
    }

    /** A test of its own for some words of the document; it tells them if they are broken. */
    static void sentence(String words, Runnable test) {
        int wrongBefore = wrong;
        int doneBefore = done;
        try {
            test.run();
        } catch (RuntimeException e) {
            wrong++;
            System.out.println("thrown: " + e);
        }
        if (done == doneBefore && wrong == wrongBefore) {
            wrong++;
            System.out.println("nothing looked at");
        }
        if (wrong != wrongBefore) {
            System.out.println("broken: " + words);
        }
    }

    static void due(String what, long got, long want) {
        done++;
        if (got != want) {
            wrong++;
            if (wrong <= 40) {
                System.out.println(what + ": " + text(got) + ", due is " + text(want));
            }
        }
    }

    static void due(String what, boolean got, boolean want) {
        due(what, got ? 1 : 0, want ? 1 : 0);
    }

    static void due(String what, String got, String want) {
        due(what + ": '" + got + "', due is '" + want + "'", got.equals(want), true);
    }

    /** The call's answer, or the number that stands for the exception that it throws. */
    static long answer(Call call) {
        try {
            return call.answer();
        } catch (IllegalStateException e) {
            return e.getClass() == IllegalStateException.class ? STATE : Long.MIN_VALUE;
        } catch (IndexOutOfBoundsException e) {
            return e.getClass() == IndexOutOfBoundsException.class ? INDEX : Long.MIN_VALUE;
        }
    }

    static void lines(LineDesk desk, long want) {
        due("lines()", answer(desk::lines), want);
    }

    /** The first of the five numbers of a line: begin, break, badness, class, what sticks out. */
    static void line(LineDesk desk, int k, int... want) {
        for (int what = 0; what < want.length; what++) {
            int w = what;
            due("line(" + k + ", " + what + ")", answer(() -> desk.line(k, w)), want[what]);
        }
    }

    /** One of the five numbers, of each line from the first on; there are no more lines. */
    static void column(LineDesk desk, int what, int... want) {
        due("how many lines", desk.about(1), want.length);
        for (int k = 1; k <= want.length; k++) {
            int line = k;
            due("line(" + k + ", " + what + ")", answer(() -> desk.line(line, what)), want[k - 1]);
        }
    }

    /** The first of: pass, lines, demerits, what sticks out, lines above TOLERANCE, items. */
    static void about(LineDesk desk, long... want) {
        for (int what = 0; what < want.length; what++) {
            due("about(" + what + ")", desk.about(what), want[what]);
        }
    }

    static void end() {
        System.out.println(done + " answers looked at, " + wrong + " wrong");
        if (wrong != 0 || done == 0) {
            System.exit(1);
        }
    }

    private static String text(long value) {
        if (value == STATE) {
            return "IllegalStateException";
        }
        if (value == INDEX) {
            return "IndexOutOfBoundsException";
        }
        return Long.toString(value);
    }
}
