import java.io.IOException;
import java.lang.reflect.Executable;
import java.lang.reflect.Field;
import java.lang.reflect.Method;
import java.lang.reflect.Modifier;
import java.nio.file.Files;
import java.nio.file.Path;
import java.util.ArrayList;
import java.util.List;
import java.util.Set;
import java.util.TreeSet;
import java.util.regex.Matcher;
import java.util.regex.Pattern;

/** The rules of LANGUAGE.md that can be seen from the class and its file. Runs in the project's folder. */
public final class LanguageTest {
    private static final Set<String> EXCEPTIONS = Set.of("IllegalStateException", "IllegalArgumentException",
        "IndexOutOfBoundsException", "ArithmeticException", "UnsupportedOperationException",
        "NoSuchElementException", "RuntimeException");
    private static final String NOT_THERE = "->|::|Exact\\(|\\b(try|catch|finally|synchronized|assert|instanceof"
        + "|System\\.(out|err|nanoTime|currentTimeMillis)|Random|Thread|double|float|getMessage|hashCode"
        + "|toString|package)\\b";

    private static final List<Class<?>> CLASSES = new ArrayList<>();
    private static String source;

    public static void main(String[] args) throws IOException {
        source = withoutComments(Files.readString(Path.of("src/main/java/LineDesk.java")));
        gather(LineDesk.class);
        Check.sentence("1: classes inside are private or package-visible and static", LanguageTest::classesInside);
        Check.sentence("1: no private method bears the name of a public one", LanguageTest::names);
        Check.sentence("2, 4, 6, 13: words that are not in the file", LanguageTest::words);
        Check.sentence("4: only what stands here", LanguageTest::library);
        Check.sentence("5: static fields are final", LanguageTest::staticFields);
        Check.sentence("6: throw new E(), E one of these", LanguageTest::thrown);
        Check.sentence("11: a method takes at most seven parameters", LanguageTest::parameters);
        Check.sentence("11: methods stay short", LanguageTest::lengths);
        Check.sentence("11: twelve classes, twenty fields", LanguageTest::sizes);
        Check.end();
    }

    private static String withoutComments(String text) {
        return text.replaceAll("(?s)/\\*.*?\\*/", "").replaceAll("//[^\n]*", "");
    }

    private static void gather(Class<?> owner) {
        CLASSES.add(owner);
        for (Class<?> inside : owner.getDeclaredClasses()) {
            gather(inside);
        }
    }

    private static void classesInside() {
        for (Class<?> inside : CLASSES.subList(1, CLASSES.size())) {
            int modifiers = inside.getModifiers();
            Check.due(inside + " is static", Modifier.isStatic(modifiers), true);
            Check.due(inside + " is hidden", Modifier.isPublic(modifiers) || Modifier.isProtected(modifiers), false);
        }
    }

    private static void names() {
        Set<String> face = new TreeSet<>();
        for (Method method : LineDesk.class.getDeclaredMethods()) {
            if (Modifier.isPublic(method.getModifiers())) {
                face.add(method.getName());
            }
        }
        for (Class<?> owner : CLASSES) {
            for (Method method : owner.getDeclaredMethods()) {
                boolean own = owner == LineDesk.class && Modifier.isPublic(method.getModifiers());
                Check.due(method + " has a name of the face", !own && face.contains(method.getName()), false);
            }
        }
    }

    private static void words() {
        Matcher matcher = Pattern.compile(NOT_THERE).matcher(source);
        Check.due("a word not allowed", matcher.find() ? matcher.group() : "", "");
    }

    private static void library() {
        Check.due("imports", all("(?m)^import ([^;]+);").toString(), "[java.util.Arrays]");
        for (String owner : new String[] {"Arrays", "Math"}) {
            Set<String> others = all("\\b" + owner + "\\.(\\w+)");
            others.removeAll(Set.of("copyOf", "copyOfRange", "fill", "min", "max", "abs"));
            Check.due("others of " + owner, others.toString(), "[]");
        }
    }

    private static Set<String> all(String pattern) {
        Set<String> seen = new TreeSet<>();
        Matcher matcher = Pattern.compile(pattern).matcher(source);
        while (matcher.find()) {
            seen.add(matcher.group(1));
        }
        return seen;
    }

    private static void staticFields() {
        for (Class<?> owner : CLASSES) {
            for (Field field : owner.getDeclaredFields()) {
                boolean changing = Modifier.isStatic(field.getModifiers()) && !Modifier.isFinal(field.getModifiers());
                Check.due(field + " is static and changes", changing, false);
            }
        }
    }

    private static void thrown() {
        Matcher matcher = Pattern.compile("\\bthrow\\b(?: new (\\w+)\\((\"[^\"]*\")?\\);)?").matcher(source);
        while (matcher.find()) {
            Check.due(matcher.group(), matcher.group(1) != null && EXCEPTIONS.contains(matcher.group(1)), true);
        }
    }

    private static void parameters() {
        for (Class<?> owner : CLASSES) {
            List<Executable> all = new ArrayList<>(List.of(owner.getDeclaredMethods()));
            all.addAll(List.of(owner.getDeclaredConstructors()));
            for (Executable each : all) {
                Check.due(each + " has many parameters", each.getParameterCount() > 7, false);
            }
        }
    }

    /** A method is what stands from a line that ends with ") {" at depth 1 or 2 to its closing brace. */
    private static void lengths() {
        String method = "(?m)^( {4}| {8})(?! |class)[^\n]*\\)[^\n;]* \\{\n(?s:.*?)^\\1}";
        Matcher matcher = Pattern.compile(method).matcher(source);
        while (matcher.find()) {
            long lines = matcher.group().lines().count();
            Check.due("lines of " + matcher.group().lines().findFirst().orElse(""), lines <= 60, true);
        }
    }

    private static void sizes() {
        Check.due("classes: " + CLASSES.size(), CLASSES.size() <= 12, true);
        for (Class<?> owner : CLASSES) {
            int fields = 0;
            for (Field field : owner.getDeclaredFields()) {
                fields += Modifier.isStatic(field.getModifiers()) ? 0 : 1;
            }
            Check.due(owner + " has fields: " + fields, fields <= 20, true);
        }
    }
}
