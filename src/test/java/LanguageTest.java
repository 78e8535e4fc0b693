import java.io.IOException;
import java.lang.reflect.Constructor;
import java.lang.reflect.Field;
import java.lang.reflect.Method;
import java.lang.reflect.Modifier;
import java.nio.file.Files;
import java.nio.file.Path;
import java.util.ArrayList;
import java.util.Arrays;
import java.util.List;
import java.util.Set;
import java.util.TreeSet;
import java.util.regex.Matcher;
import java.util.regex.Pattern;

/** What LANGUAGE.md rules out, looked for in the class's text without its comments and in its members. */
public final class LanguageTest {
    private static final Path SOURCE = Path.of("src/main/java/PrintQueue.java");
    private static final String[] RULED_OUT = {
        "->", "::", "\\bpackage\\b", "\\bcatch\\b", "\\bfinally\\b", "\\bsynchronized\\b", "\\bassert\\b",
        "\\bprotected\\b", "\\bSystem\\.(?!arraycopy)", "\\bThread\\b", "Exact\\(", "\\bhashCode\\b",
        "\\btoString\\b", "\\bvar\\b", "\\bstatic \\{", "\\bObject\\b", "while \\(true\\)", "for \\(;;\\)",
        "\\bRandom\\b", "\\[\\]\\[\\]\\[\\]",
    };
    private static final Set<String> THROWN = Set.of("IllegalStateException", "IllegalArgumentException",
            "IndexOutOfBoundsException", "UnsupportedOperationException", "NoSuchElementException");
    private static final Set<Class<?>> CONSTANTS = Set.of(int.class, long.class, boolean.class, char.class,
            String.class, int[].class, long[].class, char[].class, byte[].class);
    private static final int MOST_METHOD_LINES = 60;
    private static final int MOST_CLASSES = 12;
    private static final int MOST_FIELDS = 20;
    private static final int MOST_PARAMETERS = 7;

    private static final Check check = new Check();

    public static void main(String[] args) throws IOException {
        check.topic("language");
        String text = Files.readString(SOURCE).replaceAll("(?s)/\\*.*?\\*/", "").replaceAll("//[^\n]*", "");
        for (String word : RULED_OUT) {
            Matcher found = Pattern.compile(word).matcher(text);
            check.tell(word, "absent", found.find() ? "at " + found.start() : "absent");
        }
        checkImports(text);
        checkThrows(text);
        atMost("longest method", longestBody(text), MOST_METHOD_LINES);
        checkClasses();
        checkPrivateNames();
        check.end();
    }

    private static void atMost(String what, int size, int most) {
        check.tell(what, "at most " + most, size <= most ? "at most " + most : Integer.toString(size));
    }

    private static void checkImports(String text) {
        Matcher found = Pattern.compile("import ([^;]+);").matcher(text);
        while (found.find()) {
            check.tell("import", "java.util.NoSuchElementException", found.group(1));
        }
    }

    /** Each throw makes one of the exceptions that the document names, on the spot. */
    private static void checkThrows(String text) {
        Matcher found = Pattern.compile("\\bthrow\\b([^;]*);").matcher(text);
        while (found.find()) {
            Matcher made = Pattern.compile(" new (\\w+)\\((\"[^\"]*\")?\\)").matcher(found.group(1));
            boolean fine = made.matches() && THROWN.contains(made.group(1));
            check.tell("throw" + found.group(1), "a named exception", fine ? "a named exception" : "another");
        }
    }

    private static int longestBody(String text) {
        int longest = 0;
        int lines = -1;
        for (String line : text.split("\n")) {
            if (line.matches("( {4}| {8})\\S.*\\) ?(throws .*)?\\{")) {
                lines = 0;
            } else if (line.matches("( {4}| {8})}")) {
                longest = Math.max(longest, lines);
                lines = -1;
            } else if (lines >= 0) {
                lines++;
            }
        }
        return longest;
    }

    private static List<Class<?>> allClasses() {
        List<Class<?>> all = new ArrayList<>(Arrays.asList(PrintQueue.class.getDeclaredClasses()));
        all.add(PrintQueue.class);
        return all;
    }

    private static void checkClasses() {
        atMost("classes", allClasses().size(), MOST_CLASSES);
        for (Class<?> each : allClasses()) {
            int modifiers = each.getModifiers();
            boolean hidden = !Modifier.isPublic(modifiers) && !Modifier.isProtected(modifiers);
            boolean inside = hidden && Modifier.isStatic(modifiers);
            check.tell(each.getName() + " is hidden and static", "true",
                    Boolean.toString(inside || each == PrintQueue.class));
            checkFields(each);
            for (Method method : each.getDeclaredMethods()) {
                atMost("parameters of " + method.getName(), method.getParameterCount(), MOST_PARAMETERS);
            }
            for (Constructor<?> made : each.getDeclaredConstructors()) {
                atMost("parameters of new " + each.getName(), made.getParameterCount(), MOST_PARAMETERS);
            }
        }
    }

    private static void checkFields(Class<?> each) {
        int count = 0;
        for (Field field : each.getDeclaredFields()) {
            if (Modifier.isStatic(field.getModifiers())) {
                boolean constant = Modifier.isFinal(field.getModifiers()) && CONSTANTS.contains(field.getType());
                check.tell("static " + field.getName(), "a constant", constant ? "a constant" : "state");
            } else {
                count++;
            }
        }
        atMost("fields of " + each.getName(), count, MOST_FIELDS);
    }

    private static void checkPrivateNames() {
        Set<String> shown = new TreeSet<>();
        for (Method method : PrintQueue.class.getMethods()) {
            shown.add(method.getName());
        }
        for (Class<?> each : allClasses()) {
            for (Method method : each.getDeclaredMethods()) {
                boolean shared = !Modifier.isPublic(method.getModifiers()) && shown.contains(method.getName());
                check.tell("the name " + method.getName(), "its own", shared ? "a public method's too" : "its own");
            }
        }
    }
}
