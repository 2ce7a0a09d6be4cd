import java.io.IOException;
import java.nio.file.Files;
import java.nio.file.Path;
import java.util.ArrayList;
import java.util.List;
import java.util.Map;
import java.util.TreeMap;
import java.util.regex.Matcher;
import java.util.regex.Pattern;

/** Those rules of LANGUAGE.md that can be seen in the source's words; run from the project's root. */
public final class LanguageTest {
    private static final String[] BANNED = {
        "package", "import", "float", "double", "String", "Math", "Integer", "Long", "System", "Arrays", "Object",
        "null", "throw", "throws", "try", "catch", "finally", "synchronized", "assert", "instanceof", "enum",
        "interface", "record", "protected", "->", "::", "\\[\\]\\s*\\[", "equals", "hashCode", "getClass", "toString",
        "extends", "implements", "Thread", "var", "static\\s*\\{", "static\\s+final\\s+\\w+\\s*\\[", "\\.length"
    };
    private static final int MOST_LINES = 60;
    private static final int MOST_FIELDS = 40;
    private static final int DEEPEST_CALL = 6;

    private static final Pattern HEAD = Pattern.compile("    (?:public|private) .*?(\\w+)\\(.*\\) \\{");
    private static final Pattern CALL = Pattern.compile("\\b(\\w+)\\s*\\(");
    private static final String COUNTED_LOOP = "\\bfor \\(int (\\w+) = \\w+; \\1 < [\\w\\[\\]]+; \\1\\+\\+\\)";

    private static final Checks checks = new Checks("LanguageTest");

    public static void main(String[] args) throws IOException {
        String source = Files.readString(Path.of("src/main/java/SignalKernel.java"));
        String code = source.replaceAll("(?s)/\\*.*?\\*/", "").replaceAll("//[^\n]*", "");
        Map<String, String> bodies = bodies(code);
        checks.due("classes", count(code, "\\bclass\\b"), 1);
        bannedWords(code);
        arraysAreFields(code);
        methodLengths(bodies);
        loopsAreCounted(code);
        callsEnd(bodies);
        argumentsHoldNoCall(bodies);
        checks.finish();
    }

    private static int count(String code, String pattern) {
        Matcher found = Pattern.compile(pattern).matcher(code);
        int n = 0;
        while (found.find()) {
            n++;
        }
        return n;
    }

    /** The lines of each method and of the constructor, by its name; the names are all different (rule 1, FaceTest). */
    private static Map<String, String> bodies(String code) {
        Map<String, String> found = new TreeMap<>();
        String name = null;
        StringBuilder body = new StringBuilder();
        for (String line : code.split("\n")) {
            Matcher head = HEAD.matcher(line);
            if (head.matches()) {
                name = head.group(1);
                body.setLength(0);
            } else if (line.equals("    }") && name != null) {
                found.put(name, body.toString());
                name = null;
            } else {
                body.append(line).append('\n');
            }
        }
        int declared = SignalKernel.class.getDeclaredMethods().length + SignalKernel.class.getDeclaredConstructors().length;
        checks.due("methods and constructors found in the source", found.size(), declared);
        return found;
    }

    private static void bannedWords(String code) {
        for (String word : BANNED) {
            String pattern = Character.isLetter(word.charAt(0)) ? "\\b" + word + "(?!\\w)" : word;
            checks.due("uses of " + word, count(code, pattern), 0);
        }
    }

    private static void arraysAreFields(String code) {
        int made = count(code, "\\bnew\\b");
        int fields = count(code, "(?m)^    private final \\w+\\[\\] \\w+ = new \\w+\\[[A-Z_]+\\];");
        checks.due("all that is made is an array in a field's initialiser", made, fields);
        int numbers = count(code, "(?m)^    private (final )?(int|long|boolean) \\w+( = \\w+)?;");
        checks.due("at most " + MOST_FIELDS + " fields", fields + numbers <= MOST_FIELDS ? 1 : 0, 1);
    }

    private static void methodLengths(Map<String, String> bodies) {
        for (String name : bodies.keySet()) {
            checks.due("lines of " + name + " are few", count(bodies.get(name), "\n") < MOST_LINES ? 1 : 0, 1);
        }
    }

    private static void loopsAreCounted(String code) {
        checks.due("loops without a counter", count(code, "\\b(while|do)\\b"), 0);
        checks.due("loops with a counter against a bound", count(code, COUNTED_LOOP), count(code, "\\bfor\\b"));
    }

    private static List<String> callsIn(String code, Map<String, String> bodies) {
        List<String> names = new ArrayList<>();
        Matcher call = CALL.matcher(code);
        while (call.find()) {
            if (bodies.containsKey(call.group(1))) {
                names.add(call.group(1));
            }
        }
        return names;
    }

    /** A chain of calls longer than the rule's six is found whether it ends or, by recursion, never does. */
    private static void callsEnd(Map<String, String> bodies) {
        for (String name : bodies.keySet()) {
            checks.due("calls from " + name + " go at most six deep", reaches(name, DEEPEST_CALL, bodies) ? 0 : 1, 1);
        }
    }

    private static boolean reaches(String name, int callsLeft, Map<String, String> bodies) {
        if (callsLeft == 0) {
            return true;
        }
        for (String called : callsIn(bodies.get(name), bodies)) {
            if (reaches(called, callsLeft - 1, bodies)) {
                return true;
            }
        }
        return false;
    }

    private static void argumentsHoldNoCall(Map<String, String> bodies) {
        for (String name : bodies.keySet()) {
            String body = bodies.get(name);
            Matcher call = CALL.matcher(body);
            while (call.find()) {
                if (bodies.containsKey(call.group(1))) {
                    String arguments = body.substring(call.end(), closing(body, call.end()));
                    checks.due("calls in the arguments of " + call.group(1) + " in " + name,
                        callsIn(arguments, bodies).size(), 0);
                }
            }
        }
    }

    /** The place of the bracket that closes the one just before start. */
    private static int closing(String code, int start) {
        int open = 1;
        int at = start;
        while (open > 0) {
            open += code.charAt(at) == '(' ? 1 : code.charAt(at) == ')' ? -1 : 0;
            at++;
        }
        return at - 1;
    }
}
