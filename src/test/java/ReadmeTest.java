import java.io.IOException;
import java.lang.reflect.InvocationTargetException;
import java.lang.reflect.Method;
import java.lang.reflect.Modifier;
import java.nio.file.Files;
import java.nio.file.Path;
import java.util.ArrayList;
import java.util.List;
import java.util.Set;
import java.util.TreeSet;
import java.util.regex.Matcher;
import java.util.regex.Pattern;

/** What README.md says agrees with the class: its table of calls, its examples, its tests. */
public final class ReadmeTest {
    private static final Path README = Path.of("README.md");
    private static final Path TESTS = Path.of("src/test/java");

    /** The README's words for refusals, in the document's order, and what is thrown for them. */
    private static final String[][] REFUSALS = {
        {"unknown: ", "IllegalArgumentException"},
        {"range: ", "IndexOutOfBoundsException"},
        {"state: ", "IllegalStateException"},
        {"no room: ", "UnsupportedOperationException"},
    };

    private static final Pattern TABLE_ROW =
            Pattern.compile("(?m)^\\| `(\\w+ \\w+\\([^`]*\\))` \\| .* \\| (.*) \\|$");
    private static final Pattern EXAMPLE = Pattern.compile("(?s)```java\n(.*?)```");
    private static final Pattern LINE = Pattern.compile(
            "desk\\.(\\w+)\\((.*?)\\);(?:\\s*// (?:(?:answers|throws) (-?\\w+).*|.*))?");

    public static void main(String[] args) throws IOException {
        Checks checks = new Checks();
        String text = Files.readString(README);
        tableIsTheFace(checks, text);
        wordsOfRefusals(checks, text);
        examplesAnswerAsWritten(checks, text);
        allTestsAreNamed(checks, text);
        checks.end();
    }

    private static void tableIsTheFace(Checks checks, String text) {
        Set<String> told = new TreeSet<>();
        Matcher row = TABLE_ROW.matcher(text);
        while (row.find()) {
            String signature = row.group(1).replaceAll("(int|long) \\w+(?=[,)])", "$1");
            told.add(signature + " " + refusalsIn(row.group(2)));
        }
        Set<String> face = new TreeSet<>();
        for (Method method : ServiceDesk.class.getDeclaredMethods()) {
            if (Modifier.isPublic(method.getModifiers())) {
                face.add(signatureOf(method) + " " + thrownBy(method));
            }
        }
        checks.same("the table of calls", String.join("\n", told), String.join("\n", face));
    }

    private static List<String> refusalsIn(String column) {
        List<String> found = new ArrayList<>();
        for (String[] refusal : REFUSALS) {
            if (column.contains(refusal[0])) {
                found.add(refusal[1]);
            }
        }
        return found;
    }

    private static String signatureOf(Method method) {
        List<String> types = new ArrayList<>();
        for (Class<?> type : method.getParameterTypes()) {
            types.add(type.getName());
        }
        return method.getReturnType().getName() + " " + method.getName() + "("
                + String.join(", ", types) + ")";
    }

    private static List<String> thrownBy(Method method) {
        List<String> found = new ArrayList<>();
        for (Class<?> type : method.getExceptionTypes()) {
            found.add(type.getSimpleName());
        }
        return found;
    }

    private static void wordsOfRefusals(Checks checks, String text) {
        int at = -1;
        for (String[] refusal : REFUSALS) {
            String word = refusal[0].replace(": ", "");
            int next = text.indexOf("| " + word + " | `" + refusal[1] + "` |");
            int before = at;
            checks.due(word + " stands behind the refusal before it", 1,
                    () -> next > before ? 1 : 0);
            at = next;
        }
    }

    private static void examplesAnswerAsWritten(Checks checks, String text) {
        int examples = 0;
        Matcher example = EXAMPLE.matcher(text);
        while (example.find()) {
            examples++;
            runs(checks, example.group(1));
        }
        int found = examples;
        checks.due("examples", 2, () -> found);
    }

    private static void runs(Checks checks, String example) {
        ServiceDesk desk = new ServiceDesk();
        String[] lines = example.split("\n");
        checks.same("an example begins with", lines[0], "ServiceDesk desk = new ServiceDesk();");
        for (int i = 1; i < lines.length; i++) {
            Matcher line = LINE.matcher(lines[i]);
            if (line.matches()) {
                String want = line.group(3) == null ? "nothing" : line.group(3);
                checks.same(lines[i], answerOf(desk, line.group(1), line.group(2)), want);
            } else {
                checks.same("a line of an example", lines[i], "a call of desk");
            }
        }
    }

    private static String answerOf(ServiceDesk desk, String name, String arguments) {
        for (Method method : ServiceDesk.class.getMethods()) {
            if (method.getName().equals(name)) {
                return answerOf(desk, method, arguments);
            }
        }
        return "no such call";
    }

    private static String answerOf(ServiceDesk desk, Method method, String arguments) {
        try {
            Object answer = method.invoke(desk, numbers(method, arguments));
            return answer == null ? "nothing" : answer.toString();
        } catch (InvocationTargetException e) {
            return e.getCause().getClass().getSimpleName();
        } catch (IllegalAccessException | IllegalArgumentException e) {
            return "no such call: " + e;
        }
    }

    private static Object[] numbers(Method method, String arguments) {
        String[] words = arguments.isEmpty() ? new String[0] : arguments.split(", ");
        Class<?>[] types = method.getParameterTypes();
        Object[] numbers = new Object[words.length];
        for (int i = 0; i < words.length; i++) {
            long number = Long.decode(words[i].replace("L", ""));
            boolean isLong = i < types.length && types[i] == long.class;
            if (isLong) {
                numbers[i] = number;
            } else {
                numbers[i] = Math.toIntExact(number);
            }
        }
        return numbers;
    }

    private static void allTestsAreNamed(Checks checks, String text) throws IOException {
        Set<String> named = new TreeSet<>();
        Matcher name = Pattern.compile("`(\\w+Test)`").matcher(text);
        while (name.find()) {
            named.add(name.group(1) + ".java");
        }
        Set<String> there = new TreeSet<>();
        try (var files = Files.newDirectoryStream(TESTS, "*Test.java")) {
            files.forEach(file -> there.add(file.getFileName().toString()));
        }
        checks.same("tests that are named", named.toString(), there.toString());
    }
}
