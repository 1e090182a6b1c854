import java.io.IOException;
import java.nio.file.Files;
import java.nio.file.Path;
import java.util.ArrayList;
import java.util.List;
import java.util.Set;
import java.util.TreeSet;
import java.util.regex.Matcher;
import java.util.regex.Pattern;

/**
 * What of LANGUAGE.md a look at the source can tell (rules 3, 4, 6, 9 and 11): words that the rules leave out, names of
 * other classes, loops without a bound, methods that grow long. It is a net with wide meshes, no proof.
 */
public final class LanguageTest {
    private static final Path SOURCE = Path.of("src/main/java/JoinedRuns.java");
    /** Words that the rules leave out, and some that they allow but the program does without. */
    private static final String[] RULED_OUT = {
        "throw", "throws", "try", "catch", "finally", "synchronized", "assert", "package", "native", "volatile", "transient", "var",
        "instanceof", "protected", "interface", "abstract", "while"};
    private static final Set<String> CAPITALS = Set.of("JoinedRuns", "Column", "State", "History", "PairWalk", "Pad", "OrderReader",
        "Math", "Integer", "System", "Arrays");
    private static final Set<String> CALLED = Set.of("Math.min", "Math.max", "Integer.bitCount", "System.arraycopy", "Arrays.fill");
    private static final int LONGEST_METHOD = 60;

    private LanguageTest() {
    }

    public static void main(String[] args) throws IOException {
        String whole = Files.readString(SOURCE);
        String code = whole.replaceAll("(?s)/[*].*?[*]/", "").replaceAll("//.*", "");
        words(code);
        names(code);
        loops(code);
        methods(code);
        Checks.due("all signs are plain", whole.chars().allMatch(sign -> sign == '\n' || sign >= 32 && sign < 127), true);
        Checks.end();
    }

    private static void words(String code) {
        for (String word : RULED_OUT) {
            Checks.due("the word " + word, Pattern.compile("\\b" + word + "\\b").matcher(code).find(), false);
        }
        for (String sign : new String[] {"->", "::", "@", "\""}) {
            Checks.due("the sign " + sign, code.replace("'@'", "").contains(sign), false);
        }
        Checks.due("imports", found("import [^;]*;", code), new TreeSet<>(Set.of("import java.util.Arrays;")));
    }

    private static void names(String code) {
        Set<String> strange = new TreeSet<>();
        for (String name : found("\\b[A-Z][a-z]\\w*", code)) {
            if (!CAPITALS.contains(name)) {
                strange.add(name);
            }
        }
        Checks.due("classes that are neither its own nor of the library's part", strange, Set.of());
        Set<String> library = found("\\b(Math|Integer|System|Arrays)\\.\\w+", code);
        library.removeAll(CALLED);
        Checks.due("other functions of the library", library, Set.of());
    }

    /** Each loop counts between a start and a bound that stand in its own head. */
    private static void loops(String code) {
        Set<String> strange = found("for \\(.*", code);
        strange.removeIf(loop -> loop.matches("for \\(int (\\w+) = [^;]+; \\1 (<|<=) [^;]+; \\1\\+\\+\\) \\{")
            || loop.matches("for \\(int (\\w+) = [^;]+ - 1; \\1 >= 0; \\1--\\) \\{"));
        Checks.due("loops without a counter and a bound", strange, Set.of());
        Checks.due("loops of another kind", found("\\bdo\\b", code), Set.of());
    }

    private static void methods(String code) {
        List<String> lengthy = new ArrayList<>();
        Matcher method = Pattern.compile("(?ms)^( +)[\\w\\[\\] ]+\\([^()]*\\) \\{\n.*?^\\1\\}").matcher(code);
        int seen = 0;
        while (method.find()) {
            seen++;
            if (method.group().lines().count() > LONGEST_METHOD) {
                lengthy.add(method.group().lines().findFirst().orElse(""));
            }
        }
        Checks.due("methods were seen", seen > 50, true);
        Checks.due("long methods", lengthy, List.of());
    }

    private static Set<String> found(String pattern, String code) {
        Set<String> all = new TreeSet<>();
        Matcher matcher = Pattern.compile(pattern).matcher(code);
        while (matcher.find()) {
            all.add(matcher.group());
        }
        return all;
    }
}
