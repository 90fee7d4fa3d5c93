/** Promise 10: clear. */
public final class ClearTest {
    public static void main(String[] args) {
        Check.sentence("All items are gone", ClearTest::itemsAreGone);
        Check.sentence("All items are gone: of an object without any", ClearTest::nothingToClear);
        Check.sentence("All items are gone: their numbers begin again", ClearTest::numbersBeginAgain);
        Check.sentence("All items are gone: nothing of them is in later ones", ClearTest::oldItemsLeaveNothing);
        Check.sentence("All items are gone: of an object with the most breaks, and with more", ClearTest::full);
        Check.sentence("the lines that were made stay", ClearTest::linesStay);
        Check.sentence("nothing else is gone", ClearTest::settingsStay);
        Check.end();
    }

    private static void itemsAreGone() {
        LineDesk desk = new LineDesk();
        Wide.items(desk, "bgkpc");
        Check.due("items", desk.about(5), 5);
        desk.clear();
        Check.about(desk, 0, 0, 0, 0, 0, 0);
        Check.lines(desk, Check.STATE);
    }

    private static void nothingToClear() {
        LineDesk desk = new LineDesk();
        desk.clear();
        desk.clear();
        Check.about(desk, 0, 0, 0, 0, 0, 0);
        Check.lines(desk, Check.STATE);
        Check.due("the first item", desk.box(0), 0);
    }

    private static void numbersBeginAgain() {
        for (char kind : "bgkpc".toCharArray()) {
            LineDesk desk = new LineDesk();
            Wide.items(desk, "bgkpc");
            desk.clear();
            Check.due("the first " + kind, Wide.item(desk, kind), 0);
            Check.due("the second " + kind, Wide.item(desk, kind), 1);
            Check.due("items", desk.about(5), 2);
        }
    }

    /** Items in the places of others have nothing of those, whatever both are. */
    private static void oldItemsLeaveNothing() {
        for (char old : "bgkpc".toCharArray()) {
            for (char kind : "bgkpc".toCharArray()) {
                LineDesk desk = desk();
                for (int i = 0; i < 6; i++) {
                    otherItem(desk, old);
                }
                desk.lines();
                desk.clear();
                LineDesk fresh = desk();
                fill(desk, kind);
                fill(fresh, kind);
                Check.lines(desk, Check.answer(fresh::lines));
                compare(desk, fresh);
            }
        }
    }

    private static LineDesk desk() {
        LineDesk desk = new LineDesk();
        desk.measure(1, 10);
        return desk;
    }

    private static void otherItem(LineDesk desk, char kind) {
        switch (kind) {
            case 'b' -> desk.box(7);
            case 'g' -> desk.glue(5, 9, 1, 8);
            case 'k' -> desk.kern(6);
            case 'p' -> desk.penalty(-10000);
            default -> desk.cut(5, 6, 7, 3);
        }
    }

    private static void fill(LineDesk desk, char kind) {
        Wide.item(desk, kind);
        desk.box(4);
        Wide.item(desk, kind);
        desk.box(8);
        Wide.item(desk, kind);
    }

    private static void compare(LineDesk desk, LineDesk fresh) {
        for (int what = 0; what <= 5; what++) {
            Check.due("about(" + what + ")", desk.about(what), fresh.about(what));
        }
        for (int k = 1; k <= fresh.about(1); k++) {
            for (int what = 0; what <= 4; what++) {
                Check.due("line(" + k + ", " + what + ")", desk.line(k, what), fresh.line(k, what));
            }
        }
    }

    private static void full() {
        LineDesk desk = new LineDesk();
        for (int i = 0; i < 400; i++) {
            desk.penalty(-10000);
        }
        Check.lines(desk, Check.STATE);
        desk.clear();
        Check.lines(desk, Check.STATE);
        desk.box(0);
        Check.lines(desk, 1);
        Check.line(desk, 1, 0, 1, 0, 2, 0);
    }

    private static void linesStay() {
        LineDesk desk = new LineDesk();
        desk.measure(1, 9);
        desk.box(9);
        desk.penalty(-10000);
        desk.box(11);
        Check.lines(desk, 2);
        for (int again = 0; again < 2; again++) {
            desk.clear();
            Check.line(desk, 1, 0, 1, 0, 2, 0);
            Check.line(desk, 2, 2, 3, 10000, 3, 2);
            Check.about(desk, 3, 2, 100 + 100000000, 2, 1, 0);
        }
        desk.box(1);
        Check.line(desk, 2, 2, 3, 10000, 3, 2);
        Check.about(desk, 3, 2, 100 + 100000000, 2, 1, 1);
    }

    private static void settingsStay() {
        LineDesk desk = new LineDesk();
        desk.rule(2, 20);
        desk.measure(1, 30);
        desk.measure(2, 40);
        desk.skip(0, 5, 0, 0, 0);
        desk.skip(1, 1, 0, 0, 0);
        desk.box(7);
        desk.clear();
        desk.box(24);
        desk.penalty(-10000);
        desk.box(35);
        Check.lines(desk, 2);
        Check.column(desk, 4, 0, 1);
        Check.due("demerits", desk.about(2), 400 + 100000000);
    }
}
