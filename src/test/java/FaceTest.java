import java.lang.reflect.Constructor;
import java.lang.reflect.Field;
import java.lang.reflect.Method;
import java.lang.reflect.Modifier;
import java.util.Arrays;
import java.util.Set;
import java.util.TreeSet;

/** The public face of the document, and rule 1 of LANGUAGE.md: nothing else can be seen. */
public final class FaceTest {
    private static final String[] METHODS = {
        "boolean rule(int,int)", "boolean measure(int,int)", "boolean skip(int,int,int,int,int)", "int box(int)",
        "int glue(int,int,int,int)", "int kern(int)", "int penalty(int)", "int cut(int,int,int,int)", "void clear()",
        "int lines() throws IllegalStateException", "int line(int,int) throws IndexOutOfBoundsException",
        "long about(int)"};

    public static void main(String[] args) {
        Class<?> face = LineDesk.class;
        Check.due("public", Modifier.isPublic(face.getModifiers()), true);
        Check.due("final", Modifier.isFinal(face.getModifiers()), true);
        methods(face);
        fields(face);
        constructors(face);
        Check.end();
    }

    private static void methods(Class<?> face) {
        Set<String> seen = new TreeSet<>();
        for (Method method : face.getDeclaredMethods()) {
            if (!Modifier.isPrivate(method.getModifiers()) && !method.isSynthetic()) {
                seen.add(told(method));
                Check.due(method + " is public", Modifier.isPublic(method.getModifiers()), true);
                Check.due(method + " is of the object", Modifier.isStatic(method.getModifiers()), false);
            }
        }
        Set<String> due = new TreeSet<>(Arrays.asList(METHODS));
        Check.due("methods are " + seen, seen.equals(due), true);
    }

    private static String told(Method method) {
        StringBuilder text = new StringBuilder(method.getReturnType() + " " + method.getName() + "(");
        for (Class<?> type : method.getParameterTypes()) {
            text.append(text.charAt(text.length() - 1) == '(' ? "" : ",").append(type);
        }
        text.append(')');
        for (Class<?> type : method.getExceptionTypes()) {
            text.append(" throws ").append(type.getSimpleName());
        }
        return text.toString();
    }

    private static void fields(Class<?> face) {
        int seen = 0;
        for (Field field : face.getDeclaredFields()) {
            int modifiers = field.getModifiers();
            if (!Modifier.isPrivate(modifiers)) {
                seen++;
                Check.due(field + " is NONE", field.getName().equals("NONE"), true);
                Check.due(field + " is public static final", Modifier.isPublic(modifiers)
                    && Modifier.isStatic(modifiers) && Modifier.isFinal(modifiers), true);
            }
        }
        Check.due("fields seen", seen, 1);
        Check.due("NONE", LineDesk.NONE, -1);
    }

    private static void constructors(Class<?> face) {
        Constructor<?>[] all = face.getDeclaredConstructors();
        Check.due("constructors", all.length, 1);
        Check.due("its arguments", all[0].getParameterCount(), 0);
        Check.due("it is public", Modifier.isPublic(all[0].getModifiers()), true);
    }
}
