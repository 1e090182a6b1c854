import java.io.IOException;
import java.lang.reflect.InvocationTargetException;
import java.lang.reflect.Method;
import java.nio.file.Files;
import java.nio.file.Path;
import java.util.ArrayList;
import java.util.List;
import java.util.Map;
import java.util.TreeMap;
import java.util.regex.MatchResult;
import java.util.regex.Pattern;

/** README.md: that the answers of its example are the class's, and that it has every code, call and test. */
public final class ReadmeTest {
    private static final Path PAGE = Path.of("README.md");
    private static final Path DOCUMENT = Path.of("../shared/DOC.md");
    private static final Path TESTS = Path.of("src/test/java");
    private static final String FACE = "```java\npublic final class JoinedRuns \\{.*?```";
    private static final String GRAMMAR = "```text\n.*?```";

    private ReadmeTest() {
    }

    public static void main(String[] args) throws IOException, ReflectiveOperationException {
        Checks.about("README.md");
        String page = Files.readString(PAGE);
        example(page);
        codes(page);
        calls(page);
        tests(page);
        if (Files.exists(DOCUMENT)) {
            String document = Files.readString(DOCUMENT);
            Checks.due("the face", first(FACE, page), first(FACE, document));
            Checks.due("the orders", first(GRAMMAR, page), first(GRAMMAR, document));
        }
        Checks.end();
    }

    /** Calls one object as the example does, line by line; behind "//" stands what is due, a number or a code's name. */
    private static void example(String page) throws ReflectiveOperationException {
        JoinedRuns x = new JoinedRuns();
        Map<String, Integer> calledBy = new TreeMap<>();
        for (MatchResult line : all("(?m)^x[.](\\w+)\\((.*)\\);(.*)$", page)) {
            String due = line.group(3).replaceFirst("^ *// (-?\\w+).*", "$1");
            Checks.due(line.group(), answer(x, line.group(1), line.group(2)), due.matches("[A-Z_]+") ? code(due) : Integer.valueOf(due));
            calledBy.merge(line.group(1), 1, Integer::sum);
        }
        Checks.due("the example has most calls", calledBy.size() > 15, true);
    }

    private static Object answer(JoinedRuns x, String name, String given) throws ReflectiveOperationException {
        String[] texts = given.isEmpty() ? new String[0] : given.split(", ");
        for (Method method : JoinedRuns.class.getMethods()) {
            if (method.getName().equals(name) && method.getParameterCount() == texts.length) {
                Object[] arguments = new Object[texts.length];
                for (int k = 0; k < texts.length; k++) {
                    long number = Long.decode(texts[k].replaceFirst("L$", ""));
                    arguments[k] = method.getParameterTypes()[k] == long.class ? (Object) number : (Object) (int) number;
                }
                return answer(x, method, arguments);
            }
        }
        return "no such method";
    }

    private static Object answer(JoinedRuns x, Method method, Object[] arguments) throws IllegalAccessException {
        try {
            return method.invoke(x, arguments);
        } catch (InvocationTargetException thrown) {
            return thrown.getCause();
        }
    }

    private static int code(String name) throws ReflectiveOperationException {
        return JoinedRuns.class.getField(name).getInt(null);
    }

    private static void codes(String page) throws ReflectiveOperationException {
        List<String> names = new ArrayList<>();
        for (MatchResult row : all("(?m)^[|] `(\\w+)` [|] (-\\d+) [|] \\w", page)) {
            names.add(row.group(1));
            Checks.due("the number of " + row.group(1), Integer.valueOf(row.group(2)), code(row.group(1)));
        }
        Checks.due("the codes", names, List.of("NO_SUCH", "BAD_VALUE", "BAD_TEXT", "TOO_MANY", "NOT_POSSIBLE", "NONE"));
    }

    /** Each call of the face has a row of a table, with the names that its arguments have there. */
    private static void calls(String page) {
        List<String> face = new ArrayList<>();
        for (MatchResult call : all("public int (\\w+\\(.*\\));", first(FACE, page))) {
            face.add(call.group(1).replaceAll("\\b(int|long) ", ""));
        }
        List<String> told = new ArrayList<>();
        for (MatchResult row : all("(?m)^[|] `(\\w+\\(.*?\\))` [|] \\w", page)) {
            told.add(row.group(1));
        }
        face.sort(null);
        told.sort(null);
        Checks.due("calls of the face", face.size(), 25);
        Checks.due("calls that the tables have", told, face);
    }

    private static void tests(String page) throws IOException {
        Checks.due("the page tells how to run the tests", page.contains("\n.ci/run\n"), true);
        try (var files = Files.list(TESTS)) {
            for (Path file : files.sorted().toList()) {
                String name = file.getFileName().toString().replace(".java", "");
                if (name.endsWith("Test")) {
                    Checks.due("the page names " + name, page.contains("`" + name + "`"), true);
                }
            }
        }
    }

    private static List<MatchResult> all(String pattern, String text) {
        return Pattern.compile(pattern).matcher(text).results().toList();
    }

    private static String first(String pattern, String text) {
        return Pattern.compile(pattern, Pattern.DOTALL).matcher(text).results().map(MatchResult::group).findFirst().orElse("none");
    }
}
