import java.util.ArrayList;
import java.util.List;

/** Sets a text in lines of 30 letters; README.md shows this file, and below it what it prints. */
public final class Example {
    private static final String TEXT = "In old-en times, when wish-ing still helped one, there lived"
        + " a king whose daugh-ters were all beau-ti-ful, but the young-est was so beau-ti-ful"
        + " that the sun it-self, which has seen so much, was as-ton-ished.";
    private static final int LETTER = 10;

    private final LineDesk desk = new LineDesk();
    private final List<String> texts = new ArrayList<>();     // of each item

    public static void main(String[] args) {
        new Example().run();
    }

    private void run() {
        desk.measure(1, 28 * LETTER);              // line 1 is shorter, ..
        desk.measure(2, 30 * LETTER);              // .. line 2 and all behind it are not
        for (String word : TEXT.split(" ")) {
            add(word);
        }
        desk.penalty(10000);                       // no break in front of ..
        desk.glue(0, 1, 1, 0);                     // .. what fills the last line
        int count = desk.lines();
        for (int k = 1; k <= count; k++) {
            System.out.println(k + " " + textOf(k)
                + "  (badness " + desk.line(k, 2) + ", class " + desk.line(k, 3) + ")");
        }
        System.out.println("pass " + desk.about(0) + ", demerits " + desk.about(2));
    }

    private void add(String word) {
        if (!texts.isEmpty()) {
            desk.glue(LETTER, 5, 0, 3);            // width, stretch, its order, shrink
            texts.add(" ");
        }
        String[] parts = word.split("-");
        for (int i = 0; i < parts.length; i++) {
            if (i > 0) {
                desk.cut(LETTER, 0, 0, 1 + 4);     // a hyphen if cut here, else nothing
                texts.add("-");
            }
            desk.box(parts[i].length() * LETTER);
            texts.add(parts[i]);
        }
    }

    private String textOf(int k) {
        StringBuilder line = new StringBuilder();
        int end = Math.min(desk.line(k, 1), texts.size());
        for (int i = desk.line(k, 0); i < end; i++) {
            line.append(texts.get(i).equals("-") ? "" : texts.get(i));
        }
        boolean cut = end < texts.size() && texts.get(end).equals("-");
        return line.append(cut ? "-" : "").toString();
    }
}
