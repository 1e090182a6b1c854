import java.io.IOException;
import java.io.UncheckedIOException;
import java.nio.file.Files;
import java.nio.file.Path;
import java.util.ArrayList;
import java.util.LinkedHashMap;
import java.util.List;
import java.util.Map;

/** The chapters of the document, and which of their words no test has quoted yet. */
final class Document {
    private static final Path FILE = Path.of("../shared/DOC.md");

    private final Map<String, String> texts = new LinkedHashMap<>();
    private final Map<String, String> unquoted = new LinkedHashMap<>();

    private Document() {
    }

    static Document read() {
        Document document = new Document();
        String heading = "";
        for (String line : lines()) {
            if (line.startsWith("#")) {
                heading = line.replaceFirst("^#+ ", "");
            } else {
                document.texts.merge(heading, oneLine(line), (text, more) -> oneLine(text + " " + more));
            }
        }
        document.unquoted.putAll(document.texts);
        return document;
    }

    private static List<String> lines() {
        if (!Files.exists(FILE)) {
            System.out.println("there is no " + FILE + " here: the quotes are not compared with it");
            return List.of();
        }
        try {
            return Files.readAllLines(FILE);
        } catch (IOException e) {
            throw new UncheckedIOException(e);
        }
    }

    private static String oneLine(String text) {
        return text.trim().replaceAll("\\s+", " ");
    }

    /** Whether the words stand in the chapter, as far as the document is here; they are quoted then. */
    boolean quote(String chapter, String words) {
        if (texts.isEmpty()) {
            return true;
        }
        if (!texts.getOrDefault(chapter, "").contains(words)) {
            return false;
        }
        unquoted.merge(chapter, words, (text, quoted) -> text.replace(quoted, " # "));
        return true;
    }

    List<String> chapters() {
        return new ArrayList<>(texts.keySet());
    }

    /** What no test has quoted of a chapter, but for the heads of methods and what stands between the quotes. */
    String unquoted(String chapter) {
        return oneLine(unquoted.getOrDefault(chapter, "").replaceFirst("^`[^`]*`:", " ").replaceAll("\\band\\b|\\bReturns\\b|[#.,;:|`-]", " "));
    }
}
