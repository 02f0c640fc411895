import java.io.IOException;
import java.lang.reflect.Field;
import java.lang.reflect.Method;
import java.lang.reflect.Modifier;
import java.nio.file.Files;
import java.nio.file.Path;
import java.util.ArrayList;
import java.util.List;
import java.util.regex.Matcher;
import java.util.regex.Pattern;

/** Rules of ../shared/LANGUAGE.md that can be seen from the class and its text. */
public final class LanguageTest {
    private static final Path SOURCE = Path.of("src/main/java/ServiceDesk.java");

    /** By rules 2, 4 to 6, 9 and 13; catching is allowed, but the class has nothing to catch. */
    private static final String[] NOT_THERE = {
        "->", "::", "\\bfinally\\b", "\\bsynchronized\\b", "\\bassert\\b", "\\bcatch\\b",
        "\\btry\\b", "\\bpackage\\b", "\\bSystem\\.(?!arraycopy)", "\\bRandom\\b", "\\bThread\\b",
        "\\bwhile\\s*\\(true\\)", "for\\s*\\(;;\\)", "\\bstatic\\s*\\{", "\\w+Exact\\(",
    };

    public static void main(String[] args) throws IOException {
        Checks checks = new Checks();
        String text = Files.readString(SOURCE).replaceAll("(?s)/\\*.*?\\*/", "");
        words(checks, text);
        onlyTheListedLibrary(checks, text);
        exceptionsAreThrownAsWritten(checks, text);
        memoryIsMadeOnce(checks, text);
        membersOfClasses(checks);
        noPrivateMethodBearsAPublicName(checks);
        checks.end();
    }

    private static List<String> found(String pattern, String text) {
        List<String> all = new ArrayList<>();
        Matcher matcher = Pattern.compile(pattern).matcher(text);
        while (matcher.find()) {
            all.add(matcher.group());
        }
        return all;
    }

    private static void words(Checks checks, String text) {
        for (String pattern : NOT_THERE) {
            checks.same(pattern, found(pattern, text).toString(), "[]");
        }
    }

    /** Rule 4. */
    private static void onlyTheListedLibrary(Checks checks, String text) {
        checks.same("imports", found("import [^;]*;", text).toString(),
                "[import java.util.Arrays;]");
        checks.same("calls of Arrays", String.join(" ", found("Arrays\\.\\w+\\(", text)),
                "Arrays.fill(");
    }

    /** Rule 6: one of the listed exceptions, with a written text. */
    private static void exceptionsAreThrownAsWritten(Checks checks, String text) {
        int written = found("throw new (IllegalArgument|IndexOutOfBounds|IllegalState"
                + "|UnsupportedOperation)Exception\\(\"[^\"+]*\"\\);", text).size();
        checks.due("all throws are written so", found("\\bthrow\\b", text).size(), () -> written);
    }

    /** "All memory is rows made once": what is made is a final field or an exception. */
    private static void memoryIsMadeOnce(Checks checks, String text) {
        int fields = found("private final [\\w\\[\\]]+ \\w+ = new ", text).size();
        int thrown = found("throw new ", text).size();
        checks.due("all that is made", found("\\bnew\\b", text).size(), () -> fields + thrown);
    }

    /** Rules 1, 2, 5 and 11. */
    private static void membersOfClasses(Checks checks) {
        Class<?>[] inside = ServiceDesk.class.getDeclaredClasses();
        checks.due("few classes", 1, () -> inside.length <= 12 ? 1 : 0);
        fieldsOf(checks, ServiceDesk.class);
        for (Class<?> one : inside) {
            checks.due(one + " is static", 1, () -> Modifier.isStatic(one.getModifiers()) ? 1 : 0);
            fieldsOf(checks, one);
        }
    }

    private static void fieldsOf(Checks checks, Class<?> one) {
        int own = 0;
        for (Field field : one.getDeclaredFields()) {
            if (Modifier.isStatic(field.getModifiers())) {
                int modifiers = field.getModifiers();
                checks.due(field + " is final", 1, () -> Modifier.isFinal(modifiers) ? 1 : 0);
            } else {
                own++;
            }
        }
        int fields = own;
        checks.due(one + " has few fields", 1, () -> fields <= 20 ? 1 : 0);
        for (Method method : one.getDeclaredMethods()) {
            checks.due(method + " has few parameters", 1,
                    () -> method.getParameterCount() <= 7 ? 1 : 0);
        }
    }

    /** Rule 1; of the classes inside too. */
    private static void noPrivateMethodBearsAPublicName(Checks checks) {
        List<String> face = new ArrayList<>();
        List<String> others = new ArrayList<>();
        for (Method method : ServiceDesk.class.getDeclaredMethods()) {
            (Modifier.isPublic(method.getModifiers()) ? face : others).add(method.getName());
        }
        for (Class<?> one : ServiceDesk.class.getDeclaredClasses()) {
            for (Method method : one.getDeclaredMethods()) {
                others.add(method.getName());
            }
        }
        others.retainAll(face);
        checks.same("names of public methods", others.toString(), "[]");
    }
}
