import java.io.ByteArrayOutputStream;
import java.io.IOException;
import java.io.PrintStream;
import java.io.UncheckedIOException;
import java.lang.reflect.Method;
import java.lang.reflect.Modifier;
import java.nio.charset.StandardCharsets;
import java.nio.file.Files;
import java.nio.file.Path;
import java.util.ArrayList;
import java.util.List;
import java.util.Set;
import java.util.TreeSet;
import java.util.regex.Matcher;
import java.util.regex.Pattern;
import java.util.stream.Stream;

/** README.md tells how to use the class, and tells it rightly. Runs in the project's folder. */
public final class ReadmeTest {
    private static final Path TESTS = Path.of("src/test/java");

    private static String readme;

    public static void main(String[] args) {
        readme = read(Path.of("README.md"));
        Check.sentence("the program shown is Example.java", ReadmeTest::program);
        Check.sentence("what it prints", ReadmeTest::printed);
        Check.sentence("the table of the calls has each one", ReadmeTest::calls);
        Check.sentence("the table of the rules: from, to", ReadmeTest::ruleBounds);
        Check.sentence("the table of the rules: at first", ReadmeTest::rulesAtFirst);
        Check.sentence("the table of the tests has each one", ReadmeTest::tests);
        Check.sentence("how to run the tests", ReadmeTest::script);
        Check.end();
    }

    private static String read(Path file) {
        try {
            return Files.readString(file);
        } catch (IOException e) {
            throw new UncheckedIOException(e);
        }
    }

    private static String block(String language) {
        Matcher matcher = Pattern.compile("```" + language + "\n(.*?)```", Pattern.DOTALL).matcher(readme);
        return matcher.find() ? matcher.group(1) : "there is no block";
    }

    /** The cells of each table row that has so many of them and a first one of this form. */
    private static List<String[]> rows(String first, int cells) {
        List<String[]> rows = new ArrayList<>();
        for (String line : readme.split("\n")) {
            String[] row = line.replaceAll("^\\| *", "").split(" *\\| *");
            if (line.startsWith("|") && row.length == cells && row[0].matches(first)) {
                rows.add(row);
            }
        }
        return rows;
    }

    private static void program() {
        Check.due("program", block("java"), read(TESTS.resolve("Example.java")));
    }

    private static void printed() {
        PrintStream screen = System.out;
        ByteArrayOutputStream bytes = new ByteArrayOutputStream();
        System.setOut(new PrintStream(bytes, true, StandardCharsets.UTF_8));
        try {
            Example.main(new String[0]);
        } finally {
            System.setOut(screen);
        }
        String printed = bytes.toString(StandardCharsets.UTF_8).replace(System.lineSeparator(), "\n");
        Check.due("printed", block("text"), printed);
    }

    private static void calls() {
        Set<String> told = new TreeSet<>();
        Matcher matcher = Pattern.compile("(?m)^\\| `(\\w+)\\(([^)]*)\\)` \\|").matcher(readme);
        while (matcher.find()) {
            int arguments = matcher.group(2).isEmpty() ? 0 : matcher.group(2).split(",").length;
            told.add(matcher.group(1) + " " + arguments);
        }
        Set<String> due = new TreeSet<>();
        for (Method method : LineDesk.class.getDeclaredMethods()) {
            if (Modifier.isPublic(method.getModifiers())) {
                due.add(method.getName() + " " + method.getParameterCount());
            }
        }
        Check.due("calls", told.toString(), due.toString());
    }

    private static void ruleBounds() {
        List<String[]> rows = rows("\\d+", 6);
        Check.due("rows", rows.size(), 9);
        for (String[] row : rows) {
            int which = Integer.parseInt(row[0]);
            int from = Integer.parseInt(row[3]);
            int to = Integer.parseInt(row[4]);
            Check.due("from", new LineDesk().rule(which, from), true);
            Check.due("below from", new LineDesk().rule(which, from - 1), false);
            Check.due("to", new LineDesk().rule(which, to), true);
            Check.due("above to", new LineDesk().rule(which, to + 1), false);
        }
    }

    /** Set to what it is at first, a rule changes nothing; set to one more, all of them change something. */
    private static void rulesAtFirst() {
        for (String[] row : rows("\\d+", 6)) {
            int which = Integer.parseInt(row[0]);
            int first = Integer.parseInt(row[2]);
            Check.due(row[1], seen(which, first), seen(-1, 0));
            Check.due(row[1] + " and one more", seen(which, first + 1).equals(seen(-1, 0)), false);
        }
    }

    /** The passes and demerits of paragraphs which together hang on each of the rules. */
    private static String seen(int which, int v) {
        StringBuilder all = new StringBuilder();
        for (int badness = 99; badness <= 202; badness++) {
            LineDesk desk = new LineDesk();
            desk.rule(which, v);
            desk.measure(1, 1000);
            desk.glue(0, 297000 / (int) Math.ceil(Math.cbrt(badness * 262144.0 - 131072)), 0, 0);
            told(desk, all);
        }
        for (int flags = 0; flags <= 1; flags++) {
            LineDesk desk = new LineDesk();
            desk.rule(which, v);
            desk.measure(1, 10);
            desk.box(10);
            for (int i = 0; i < 2; i++) {
                desk.cut(0, 0, 0, flags + 2);
                desk.box(10);
            }
            told(desk, all);
        }
        LineDesk desk = new LineDesk();
        desk.rule(which, v);
        desk.skip(0, 0, 1, 1, 0);
        desk.box(0);
        desk.penalty(50);
        told(desk, all);
        return all.toString();
    }

    private static void told(LineDesk desk, StringBuilder all) {
        desk.lines();
        for (int what = 0; what <= 4; what++) {
            all.append(desk.about(what)).append(' ');
        }
        all.append(';');
    }

    private static void tests() {
        Set<String> told = new TreeSet<>();
        Matcher matcher = Pattern.compile("\\b\\w+Test\\b").matcher(readme);
        while (matcher.find()) {
            told.add(matcher.group());
        }
        Set<String> due = new TreeSet<>();
        try (Stream<Path> files = Files.list(TESTS)) {
            files.map(file -> file.getFileName().toString()).filter(name -> name.endsWith("Test.java"))
                .forEach(name -> due.add(name.substring(0, name.length() - ".java".length())));
        } catch (IOException e) {
            throw new UncheckedIOException(e);
        }
        Check.due("tests", told.toString(), due.toString());
    }

    private static void script() {
        Check.due("bash .ci/run", readme.contains("\n    bash .ci/run\n"), true);
        Check.due(".ci/run", Files.exists(Path.of(".ci/run")), true);
    }
}
