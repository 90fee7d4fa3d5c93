/** Terms: where there are breaks, their penalties, which are forced, which hyphenated. */
public final class BreaksTest {
    public static void main(String[] args) {
        Check.sentence("There is a break at glue whose item before it is a box or a cut", BreaksTest::atGlue);
        Check.sentence("at a kern whose item behind it is glue", BreaksTest::atKern);
        Check.sentence("at a penalty below 10000", BreaksTest::atPenalty);
        Check.sentence("at a cut (but no automatic one in pass 1)", BreaksTest::atCut);
        Check.sentence("BREAKS are numbered by their items; the last one is END, the number of items there are",
            BreaksTest::atEnd);
        Check.sentence("Its PENALTY is 0 at glue and kerns", BreaksTest::glueAndKernsAreFree);
        Check.sentence("the number at a penalty", BreaksTest::penaltyCosts);
        Check.sentence("at a cut HYPHEN if it has flag 1, else BARE", BreaksTest::cutCosts);
        Check.sentence("at END -10000", BreaksTest::endCosts);
        Check.sentence("It is FORCED if that is -10000 or less: a penalty", BreaksTest::forcedPenalty);
        Check.sentence("It is FORCED if that is -10000 or less: a cut", BreaksTest::forcedCut);
        Check.sentence("It is FORCED if that is -10000 or less: an automatic cut, not in pass 1",
            BreaksTest::forcedAutomaticCut);
        Check.sentence("A WAY is a row of breaks, in order, all forced ones among them, END the last",
            BreaksTest::allForcedOnes);
        Check.sentence("A cut is a HYPHENATED break", BreaksTest::hyphenated);
        Check.end();
    }

    private static void atGlue() {
        LineDesk desk = Wide.desk();
        Wide.items(desk, "gbggpgbbgb");
        Wide.checkAllBreaks(desk, 2, 8, 10);
        desk.clear();
        Wide.items(desk, "bkb");
        Wide.checkAllBreaks(desk, 3);
        Wide.items(desk, "kgb");
        Wide.checkAllBreaks(desk, 3, 6);
        desk.clear();
        Wide.items(desk, "cgb");
        Wide.checkAllBreaks(desk, 0, 1, 3);
        desk.clear();
        desk.cut(0, 0, 0, 4);
        Wide.items(desk, "gb");
        Wide.checkAllBreaks(desk, 1, 3);
        desk.clear();
        Wide.items(desk, "g");
        Wide.checkAllBreaks(desk, 1);
        Wide.items(desk, "bg");
        Wide.checkAllBreaks(desk, 2, 3);
    }

    private static void atKern() {
        LineDesk desk = Wide.desk();
        Wide.items(desk, "kg");
        Wide.checkAllBreaks(desk, 0, 2);
        desk.clear();
        Wide.items(desk, "kbkkpkcbk");
        Wide.checkAllBreaks(desk, 6, 9);
        Wide.items(desk, "g");
        Wide.checkAllBreaks(desk, 6, 8, 10);
        desk.clear();
        Wide.items(desk, "kkg");
        Wide.checkAllBreaks(desk, 1, 3);
    }

    private static void atPenalty() {
        int[] taken = {9999, 1, 0, -1, -9999, -10000, -10001, Integer.MIN_VALUE};
        int[] none = {10000, 10001, Integer.MAX_VALUE};
        for (int p : taken) {
            LineDesk desk = Wide.desk();
            desk.penalty(p);
            Wide.checkAllBreaks(desk, 0, 1);
        }
        for (int p : none) {
            LineDesk desk = Wide.desk();
            desk.penalty(p);
            Wide.checkAllBreaks(desk, 1);
        }
    }

    private static void atCut() {
        for (int flags = 0; flags <= 7; flags++) {
            for (int pass = 1; pass <= 3; pass++) {
                LineDesk desk = Wide.desk();
                Wide.onlyFromPass(desk, pass);
                desk.cut(0, 0, 0, flags);
                if (pass == 1 && flags >= 4) {
                    Wide.checkAllBreaks(desk, 1);
                } else {
                    Wide.checkAllBreaks(desk, 0, 1);
                }
                Check.due("pass", desk.about(0), pass);
            }
        }
    }

    private static void atEnd() {
        for (char kind : "bgkp".toCharArray()) {
            LineDesk desk = Wide.desk();
            Wide.item(desk, kind);
            Wide.checkAllBreaks(desk, 1);
            Wide.checkForced(desk, 1);
        }
        LineDesk desk = Wide.desk();
        Wide.items(desk, "bbkpb");
        Wide.checkAllBreaks(desk, 5);
    }

    private static void checkDemerits(LineDesk desk, long want) {
        desk.rule(8, 10000);
        desk.lines();
        Check.due("demerits", desk.about(2), want);
    }

    private static void glueAndKernsAreFree() {
        LineDesk desk = Wide.desk();
        Wide.items(desk, "bgbkgb");
        Wide.checkAllBreaks(desk, 1, 3, 6);
        checkDemerits(desk, 0);
    }

    private static void penaltyCosts() {
        int[] numbers = {9999, 1, 0, -1, -9999, -10000, -10001};
        long[] demerits = {99980001, 1, 0, -1, -99980001, 0, 0};
        for (int i = 0; i < numbers.length; i++) {
            LineDesk desk = Wide.desk();
            desk.penalty(numbers[i]);
            checkDemerits(desk, demerits[i]);
        }
    }

    private static void cutCosts() {
        for (int flags = 0; flags <= 7; flags++) {
            LineDesk desk = Wide.desk();
            Wide.onlyFromPass(desk, 2);
            desk.rule(3, 30);
            desk.rule(4, 40);
            desk.cut(0, 0, 0, flags);
            checkDemerits(desk, flags % 2 == 1 ? 900 : 1600);
            desk.rule(flags % 2 == 1 ? 3 : 4, 10000);
            checkDemerits(desk, 100000000);
            desk.rule(flags % 2 == 1 ? 3 : 4, -9999);
            checkDemerits(desk, -99980001);
        }
    }

    private static void endCosts() {
        LineDesk desk = Wide.desk();
        Wide.items(desk, "b");
        checkDemerits(desk, 0);
    }

    private static void forcedPenalty() {
        LineDesk desk = Wide.desk();
        desk.penalty(-9999);
        Wide.checkForced(desk, 1);
        desk.penalty(-10000);
        Wide.checkForced(desk, 1, 2);
        desk.penalty(-10001);
        Wide.checkForced(desk, 1, 2, 3);
        desk.penalty(Integer.MIN_VALUE);
        Wide.checkForced(desk, 1, 2, 3, 4);
    }

    private static void forcedCut() {
        for (int flag = 0; flag <= 1; flag++) {
            LineDesk desk = Wide.desk();
            desk.cut(0, 0, 0, flag);
            desk.rule(4 - flag, -9999);
            desk.rule(3 + flag, -10000);
            Wide.checkForced(desk, 1);
            desk.rule(4 - flag, -10000);
            Wide.checkForced(desk, 0, 1);
        }
    }

    private static void forcedAutomaticCut() {
        for (int pass = 1; pass <= 3; pass++) {
            LineDesk desk = Wide.desk();
            Wide.onlyFromPass(desk, pass);
            desk.rule(4, -10000);
            desk.cut(0, 0, 0, 4);
            desk.box(1);
            if (pass == 1) {
                Wide.checkForced(desk, 2);
            } else {
                Wide.checkForced(desk, 0, 2);
            }
        }
    }

    /** Forced breaks are taken also where the lines would be far better without them. */
    private static void allForcedOnes() {
        LineDesk desk = new LineDesk();
        desk.measure(1, 10);
        desk.box(5);
        desk.penalty(-10000);
        desk.box(5);
        desk.glue(0, 0, 0, 0);
        desk.penalty(-10000);
        desk.penalty(-10000);
        Check.lines(desk, 4);
        Check.column(desk, 1, 1, 4, 5, 6);
        Check.about(desk, 3, 4);
    }

    private static void hyphenated() {
        for (int flags = 0; flags <= 7; flags++) {
            LineDesk desk = Wide.desk();
            Wide.onlyFromPass(desk, 2);
            desk.rule(3, 0);
            desk.rule(4, 0);
            desk.rule(7, 77);
            desk.cut(0, 0, 0, flags);
            checkDemerits(desk, 77);
        }
        LineDesk desk = Wide.desk();
        desk.rule(7, 77);
        Wide.items(desk, "bgb");
        desk.penalty(0);
        checkDemerits(desk, 0);
        Wide.items(desk, "kg");
        checkDemerits(desk, 0);
    }
}
