import java.io.IOException;
import java.nio.file.Files;
import java.nio.file.Path;
import java.util.regex.Matcher;
import java.util.regex.Pattern;

/** Words that LANGUAGE.md rules out, looked for in the class's text without its comments. */
public final class LanguageTest {
    private static final Path SOURCE = Path.of("src/main/java/PrintQueue.java");
    private static final String[] RULED_OUT = {
        "->", "::", "\\bpackage\\b", "\\bcatch\\b", "\\bfinally\\b", "\\bsynchronized\\b", "\\bassert\\b",
        "\\bprotected\\b", "\\bSystem\\.(?!arraycopy)", "\\bThread\\b", "Exact\\(", "\\bhashCode\\b",
        "\\btoString\\b", "\\bvar\\b", "\\bstatic \\{", "\\bObject\\b", "while \\(true\\)", "for \\(;;\\)",
        "\\bRandom\\b", "\\[\\]\\[\\]\\[\\]",
    };
    private static final int MOST_METHOD_LINES = 60;

    public static void main(String[] args) throws IOException {
        Check check = new Check();
        check.topic("language");
        String text = Files.readString(SOURCE).replaceAll("(?s)/\\*.*?\\*/", "").replaceAll("//[^\n]*", "");
        for (String word : RULED_OUT) {
            Matcher found = Pattern.compile(word).matcher(text);
            check.tell(word, "absent", found.find() ? "at " + found.start() : "absent");
        }
        checkImports(check, text);
        checkStaticFields(check, text);
        check.tell("longest method", "short", longestBody(text) <= MOST_METHOD_LINES ? "short" : "long");
        check.end();
    }

    private static void checkImports(Check check, String text) {
        Matcher found = Pattern.compile("import ([^;]+);").matcher(text);
        while (found.find()) {
            check.tell("import", "java.util.NoSuchElementException", found.group(1));
        }
    }

    private static void checkStaticFields(Check check, String text) {
        Matcher found = Pattern.compile("static (?!final )[\\w\\[\\]]+ \\w+ *[=;]").matcher(text);
        check.tell("static state", "none", found.find() ? found.group() : "none");
    }

    private static int longestBody(String text) {
        int longest = 0;
        int lines = -1;
        for (String line : text.split("\n")) {
            if (line.matches("( {4}| {8})\\S.*\\) ?(throws .*)?\\{")) {
                lines = 0;
            } else if (line.matches("( {4}| {8})}")) {
                longest = Math.max(longest, lines);
                lines = -1;
            } else if (lines >= 0) {
                lines++;
            }
        }
        return longest;
    }
}
