import java.io.IOException;
import java.nio.file.Files;
import java.nio.file.Path;
import java.util.regex.Matcher;
import java.util.regex.Pattern;

/** Those rules of LANGUAGE.md that can be seen in the source's words; run from the project's root. */
public final class LanguageTest {
    private static final String[] BANNED = {
        "package", "import", "float", "double", "String", "Math", "Integer", "Long", "System", "Arrays", "Object",
        "null", "throw", "throws", "try", "catch", "finally", "synchronized", "assert", "instanceof", "enum",
        "interface", "record", "protected", "->", "::", "\\[\\]\\s*\\[", "equals", "hashCode", "getClass", "toString",
        "extends", "implements", "Thread", "var", "static\\s*\\{", "static\\s+final\\s+\\w+\\s*\\[", "\\.length"
    };
    private static final int MOST_LINES = 60;
    private static final int MOST_FIELDS = 40;

    private static final Checks checks = new Checks("LanguageTest");

    public static void main(String[] args) throws IOException {
        String source = Files.readString(Path.of("src/main/java/SignalKernel.java"));
        String code = source.replaceAll("(?s)/\\*.*?\\*/", "").replaceAll("//[^\n]*", "");
        bannedWords(code);
        arraysAreFields(code);
        methodLengths(code);
        checks.due("classes", count(code, "\\bclass\\b"), 1);
        checks.finish();
    }

    private static int count(String code, String pattern) {
        Matcher found = Pattern.compile(pattern).matcher(code);
        int n = 0;
        while (found.find()) {
            n++;
        }
        return n;
    }

    private static void bannedWords(String code) {
        for (String word : BANNED) {
            String pattern = Character.isLetter(word.charAt(0)) ? "\\b" + word + "(?!\\w)" : word;
            checks.due("uses of " + word, count(code, pattern), 0);
        }
    }

    private static void arraysAreFields(String code) {
        int made = count(code, "\\bnew\\b");
        int fields = count(code, "(?m)^    private final \\w+\\[\\] \\w+ = new \\w+\\[[A-Z_]+\\];");
        checks.due("all that is made is an array in a field's initialiser", made, fields);
        int numbers = count(code, "(?m)^    private (final )?(int|long|boolean) \\w+( = \\w+)?;");
        checks.due("at most " + MOST_FIELDS + " fields", fields + numbers <= MOST_FIELDS ? 1 : 0, 1);
    }

    private static void methodLengths(String code) {
        int first = -1;
        String[] lines = code.split("\n");
        for (int i = 0; i < lines.length; i++) {
            if (lines[i].matches("    (public|private) .*\\{")) {
                first = i;
            }
            if (lines[i].equals("    }") && first >= 0) {
                checks.due("lines of" + lines[first], i - first < MOST_LINES ? 1 : 0, 1);
                first = -1;
            }
        }
    }
}
