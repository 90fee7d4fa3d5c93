/** Promise 12: line. */
public final class LineTest {
    public static void main(String[] args) {
        LineDesk desk = new LineDesk();
        wrongAsked(desk, 0);
        desk.measure(1, 20);
        desk.box(10);
        desk.penalty(10000);
        desk.glue(4, 6, 0, 2);
        desk.box(5);
        desk.penalty(-10000);
        desk.kern(9);
        desk.box(25);
        desk.kern(2);
        wrongAsked(desk, 0);
        Check.lines(desk, 2);
        Check.line(desk, 1, 0, 4, 0, 2, 0);
        Check.line(desk, 2, 6, 8, 10000, 3, 7);
        wrongAsked(desk, 2);
        desk.box(1);
        desk.measure(1, 7);
        desk.rule(1, 0);
        Check.line(desk, 1, 0, 4, 0, 2, 0);
        Check.line(desk, 2, 6, 8, 10000, 3, 7);
        desk.clear();
        Check.line(desk, 2, 6, 8, 10000, 3, 7);
        desk.box(7);
        Check.lines(desk, 1);
        Check.line(desk, 1, 0, 1, 0, 2, 0);
        wrongAsked(desk, 1);
        sticksOutFar();
        Check.end();
    }

    private static void wrongAsked(LineDesk desk, int lines) {
        int[] ks = {0, -1, lines + 1, lines + 2, 400, 401, Integer.MIN_VALUE, Integer.MAX_VALUE};
        for (int k : ks) {
            for (int what = -1; what <= 5; what++) {
                int w = what;
                Check.due("line(" + k + ", " + what + ")", Check.answer(() -> desk.line(k, w)), Check.INDEX);
            }
        }
        for (int k = 1; k <= lines; k++) {
            for (int what : new int[] {-1, 5, Integer.MIN_VALUE, Integer.MAX_VALUE}) {
                int line = k;
                Check.due("line(" + k + ", " + what + ")", Check.answer(() -> desk.line(line, what)), Check.INDEX);
            }
        }
    }

    private static void sticksOutFar() {
        LineDesk desk = new LineDesk();
        desk.measure(1, -1);
        desk.box(1073741823);
        desk.box(1073741822);
        Check.lines(desk, 1);
        Check.line(desk, 1, 0, 2, 10000, 3, 2147483646);
        desk.box(1);
        Check.lines(desk, 1);
        Check.line(desk, 1, 0, 3, 10000, 3, 2147483647);
        desk.box(1);
        Check.lines(desk, 1);
        Check.line(desk, 1, 0, 4, 10000, 3, 2147483647);
        Check.due("about(3)", desk.about(3), 2147483648L);
    }
}
