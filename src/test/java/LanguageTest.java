import java.io.IOException;
import java.nio.file.Files;
import java.nio.file.Path;
import java.util.ArrayList;
import java.util.List;
import java.util.Set;
import java.util.TreeSet;
import java.util.regex.Matcher;
import java.util.regex.Pattern;

/**
 * What of LANGUAGE.md a look at the source can tell (rules 2, 3, 4, 6, 9, 11 and 12): words that the rules leave out,
 * other classes and functions of the library, loops without any bound, methods that grow long, fields that are handed on
 * while their object is made. It is a net with wide meshes, no proof, and refuses nothing that the rules allow.
 */
public final class LanguageTest {
    private static final Path SOURCE = Path.of("src/main/java/JoinedRuns.java");
    private static final String[] RULED_OUT = {
        "throw", "throws", "try", "catch", "finally", "synchronized", "assert", "package", "native", "volatile", "protected"};
    private static final Set<String> LIBRARY = Set.of("String", "StringBuilder", "Integer", "Long", "Math", "System", "Arrays", "ArrayList",
        "List", "Iterator", "Iterable", "Comparable", "Override");
    private static final int LONGEST_METHOD = 70;
    private static final int MOST_PARAMETERS = 7;

    private LanguageTest() {
    }

    public static void main(String[] args) throws IOException {
        String whole = Files.readString(SOURCE);
        String code = whole.replaceAll("(?s)/[*].*?[*]/", "").replaceAll("//.*", "").replaceAll("\"[^\"\n]*\"", "\"\"");
        words(code);
        names(code);
        methods(code);
        handedOut(code);
        Checks.due("all signs are plain", whole.chars().allMatch(sign -> sign == '\n' || sign >= 32 && sign < 127), true);
        Checks.end();
    }

    private static void words(String code) {
        Checks.about("LANGUAGE.md, rules 2, 6 and 9");
        for (String word : RULED_OUT) {
            Checks.due("the word " + word, Pattern.compile("\\b" + word + "\\b").matcher(code).find(), false);
        }
        String withoutCases = code.replaceAll("\\b(case [^;{}]*?|default) ->", "");
        Checks.due("lambdas", withoutCases.contains("->"), false);
        Checks.due("method references", code.contains("::"), false);
        Checks.due("static initialisers", Pattern.compile("\\bstatic \\{").matcher(code).find(), false);
        Checks.due("loops without any bound", found("while \\(true\\)|for \\([^;]*; *;", code), Set.of());
    }

    private static void names(String code) {
        Checks.about("LANGUAGE.md, rules 3 and 4");
        Set<String> strange = found("import [^;]*;", code);
        strange.removeIf(line -> line.matches("import java[.]util[.](Arrays|ArrayList|List|Iterator);"));
        Checks.due("imports", strange, Set.of());
        Set<String> own = found("(?<=\\b(class|record|enum|interface) )\\w+", code);
        Set<String> names = found("\\b[A-Z][a-z]\\w*", code);
        names.removeAll(own);
        names.removeAll(LIBRARY);
        Checks.due("classes that are neither its own nor of the library's part", names, Set.of());
        Set<String> called = found("\\b(Math|Integer|Long|System|Arrays)[.]\\w+", code);
        called.removeIf(call -> call.matches("(Math|Integer|Long)[.]\\w+") && !call.endsWith("Exact"));
        called.removeAll(Set.of("System.arraycopy", "Arrays.copyOf", "Arrays.copyOfRange", "Arrays.fill"));
        Checks.due("other functions of the library", called, Set.of());
    }

    private static void methods(String code) {
        Checks.about("LANGUAGE.md, rule 11");
        List<String> lengthy = new ArrayList<>();
        Matcher method = Pattern.compile("(?ms)^( +)[\\w\\[\\]<> ]+\\(([^()]*)\\) \\{\n.*?^\\1\\}").matcher(code);
        int seen = 0;
        while (method.find()) {
            seen++;
            if (method.group().lines().count() > LONGEST_METHOD || method.group(2).split(",").length > MOST_PARAMETERS) {
                lengthy.add(method.group().lines().findFirst().orElse(""));
            }
        }
        Checks.due("methods were seen", seen > 25, true);
        Checks.due("long methods, or of many parameters", lengthy, List.of());
    }

    /** A field's initialiser is part of the constructor: a name among what it gives to another one is a field's. */
    private static void handedOut(String code) {
        Checks.about("LANGUAGE.md, rule 12");
        String given = "\\b(?!true\\b|false\\b|null\\b)[a-z]\\w*";
        Set<String> fields = found("(?m)^ *(private|final) [^=;()]*= new \\w+\\([^;]*" + given + "[^;]*;", code);
        Checks.due("fields that are handed on by an initialiser", fields, Set.of());
    }

    private static Set<String> found(String pattern, String code) {
        Set<String> all = new TreeSet<>();
        Matcher matcher = Pattern.compile(pattern).matcher(code);
        while (matcher.find()) {
            all.add(matcher.group());
        }
        return all;
    }
}
