import java.lang.reflect.Constructor;
import java.lang.reflect.Field;
import java.lang.reflect.Method;
import java.lang.reflect.Modifier;
import java.util.ArrayList;
import java.util.Arrays;
import java.util.Collections;
import java.util.List;

/** The public face of the document, and nothing beside it. */
public final class FaceTest {
    private static final String[] FACE = {
        "int book()",
        "int count(int) IllegalArgumentException",
        "int find(int,long,int) IllegalArgumentException IndexOutOfBoundsException",
        "int make(int,int) IllegalArgumentException IllegalStateException"
            + " UnsupportedOperationException",
        "int row(int,int) IllegalArgumentException",
        "int subject(int,int,int) IllegalArgumentException",
        "int text(int,int,long,int) IllegalArgumentException IndexOutOfBoundsException"
            + " IllegalStateException UnsupportedOperationException",
        "int textAt(int,int,int) IllegalArgumentException IndexOutOfBoundsException",
        "int tick(int) IndexOutOfBoundsException",
        "long call(int,int,int,int) IllegalArgumentException IndexOutOfBoundsException"
            + " IllegalStateException",
        "long simulate(int,int,int,int) IllegalArgumentException IndexOutOfBoundsException"
            + " IllegalStateException",
        "void under(int,int) IllegalArgumentException IllegalStateException",
        "void verb(int,int,int,int,int) IllegalArgumentException IndexOutOfBoundsException",
    };

    public static void main(String[] args) {
        Checks checks = new Checks();
        int modifiers = ServiceDesk.class.getModifiers();
        checks.due("public", 1, () -> Modifier.isPublic(modifiers) ? 1 : 0);
        checks.due("final", 1, () -> Modifier.isFinal(modifiers) ? 1 : 0);
        List<String> found = visibleMethods();
        System.out.println(found.equals(Arrays.asList(FACE)) ? "the face is as due" : found);
        checks.due("the face", 1, () -> found.equals(Arrays.asList(FACE)) ? 1 : 0);
        checks.due("constructors", 1, FaceTest::plainConstructors);
        checks.due("visible fields", 0, FaceTest::visibleFields);
        checks.end();
    }

    private static List<String> visibleMethods() {
        List<String> found = new ArrayList<>();
        for (Method method : ServiceDesk.class.getDeclaredMethods()) {
            if (!Modifier.isPrivate(method.getModifiers())) {
                found.add(nameOf(method));
            }
        }
        Collections.sort(found);
        return found;
    }

    private static String nameOf(Method method) {
        StringBuilder name = new StringBuilder();
        name.append(method.getReturnType().getName()).append(' ').append(method.getName());
        name.append('(');
        String comma = "";
        for (Class<?> type : method.getParameterTypes()) {
            name.append(comma).append(type.getName());
            comma = ",";
        }
        name.append(')');
        for (Class<?> thrown : method.getExceptionTypes()) {
            name.append(' ').append(thrown.getSimpleName());
        }
        return name.toString();
    }

    private static long plainConstructors() {
        Constructor<?>[] all = ServiceDesk.class.getDeclaredConstructors();
        boolean plain = all.length == 1 && all[0].getParameterCount() == 0;
        return plain && Modifier.isPublic(all[0].getModifiers()) ? 1 : 0;
    }

    private static long visibleFields() {
        long found = 0;
        for (Field field : ServiceDesk.class.getDeclaredFields()) {
            if (!Modifier.isPrivate(field.getModifiers())) {
                found++;
            }
        }
        return found;
    }
}
