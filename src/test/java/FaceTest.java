import java.lang.reflect.Constructor;
import java.lang.reflect.Field;
import java.lang.reflect.Method;
import java.lang.reflect.Modifier;
import java.util.Arrays;
import java.util.TreeSet;

/** The class has the document's face and shows nothing more. */
public final class FaceTest {
    private static final String[] METHODS = {
        "int printer(int, int) IllegalArgumentException UnsupportedOperationException",
        "int ticket(int, int, int) IllegalArgumentException UnsupportedOperationException",
        "int job(int, int, int, int, long) NoSuchElementException IllegalArgumentException"
                + " UnsupportedOperationException",
        "int take(int, long) NoSuchElementException IllegalArgumentException IllegalStateException",
        "int print(int, int) NoSuchElementException IllegalArgumentException",
        "int fault(int) NoSuchElementException",
        "int hold(int, boolean) NoSuchElementException",
        "int cancel(int) NoSuchElementException",
        "int state(int, int) NoSuchElementException IndexOutOfBoundsException",
        "int doubled(int, int) NoSuchElementException IndexOutOfBoundsException",
        "long account(int, int) NoSuchElementException IndexOutOfBoundsException",
        "int reason(int) NoSuchElementException",
        "int split(int, int, int) NoSuchElementException",
        "int like(int) IllegalArgumentException",
    };

    public static void main(String[] args) {
        Check check = new Check();
        check.topic("face");
        int modifiers = PrintQueue.class.getModifiers();
        check.tell("the class", "public final", Modifier.toString(modifiers));
        check.tell("methods", new TreeSet<>(Arrays.asList(METHODS)).toString(), shownMethods().toString());
        check.tell("constructors", "[public 0]", shownConstructors().toString());
        check.tell("fields", "[]", shownFields().toString());
        check.end();
    }

    private static TreeSet<String> shownMethods() {
        TreeSet<String> shown = new TreeSet<>();
        for (Method method : PrintQueue.class.getDeclaredMethods()) {
            if (!Modifier.isPrivate(method.getModifiers())) {
                shown.add(textOf(method));
            }
        }
        return shown;
    }

    private static String textOf(Method method) {
        StringBuilder text = new StringBuilder();
        String prefix = Modifier.toString(method.getModifiers());
        text.append(prefix.equals("public") ? "" : prefix + " ");
        text.append(method.getReturnType().getSimpleName()).append(' ').append(method.getName()).append('(');
        String gap = "";
        for (Class<?> type : method.getParameterTypes()) {
            text.append(gap).append(type.getSimpleName());
            gap = ", ";
        }
        text.append(')');
        for (Class<?> type : method.getExceptionTypes()) {
            text.append(' ').append(type.getSimpleName());
        }
        return text.toString();
    }

    private static TreeSet<String> shownConstructors() {
        TreeSet<String> shown = new TreeSet<>();
        for (Constructor<?> made : PrintQueue.class.getDeclaredConstructors()) {
            if (!Modifier.isPrivate(made.getModifiers())) {
                shown.add(Modifier.toString(made.getModifiers()) + " " + made.getParameterCount());
            }
        }
        return shown;
    }

    private static TreeSet<String> shownFields() {
        TreeSet<String> shown = new TreeSet<>();
        for (Field field : PrintQueue.class.getDeclaredFields()) {
            if (!Modifier.isPrivate(field.getModifiers())) {
                shown.add(field.getName());
            }
        }
        return shown;
    }
}
