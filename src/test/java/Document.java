import java.io.IOException;
import java.nio.file.Files;
import java.nio.file.Path;
import java.util.ArrayList;
import java.util.LinkedHashMap;
import java.util.List;
import java.util.Map;

/** The parts of ../shared/DOC.md: each promise by its number, and each paragraph of "Terms" by its first words. */
final class Document {
    private static final String TERMS = "Terms: ";
    private static final String PROMISE = "Promise ";

    /** Of each part its clauses, with single blanks for breaks of lines. */
    private final Map<String, List<String>> parts = new LinkedHashMap<>();

    Document(Path path) throws IOException {
        for (String section : Files.readString(path).split("(?m)^## ")) {
            String title = section.lines().findFirst().orElse("");
            String body = section.substring(title.length());
            if (title.equals("Terms")) {
                addTerms(body);
            } else if (title.startsWith(PROMISE)) {
                parts.put(title.replaceAll(":.*", ""), clauses(body));
            }
        }
    }

    static String partOf(Says says) {
        return says.terms().isEmpty() ? PROMISE + says.promise() : TERMS + says.terms();
    }

    Map<String, List<String>> parts() {
        return parts;
    }

    boolean holds(String part, String words) {
        return parts.containsKey(part) && String.join(" ", parts.get(part)).contains(words);
    }

    private void addTerms(String body) {
        String name = "";
        for (String paragraph : body.strip().split("\n\\s*\n")) {
            // A paragraph that does not begin with a few words and a stop goes on with the one before.
            if (paragraph.matches("(?s)[A-Z][a-z]*( [a-z]+){0,3}\\..*")) {
                name = TERMS + paragraph.substring(0, paragraph.indexOf('.'));
                paragraph = paragraph.substring(paragraph.indexOf('.') + 1);
                parts.put(name, new ArrayList<>());
            }
            parts.get(name).addAll(clauses(paragraph));
        }
    }

    /** What stands between two stops; the line of a method or of a parameter is one clause. */
    private static List<String> clauses(String body) {
        List<String> clauses = new ArrayList<>();
        for (String paragraph : body.strip().split("\n\\s*\n|\n(?=- )")) {
            String words = paragraph.replaceAll("\\s+", " ").strip();
            if (words.startsWith("`") || words.startsWith("- ")) {
                clauses.add(words);
            } else {
                clauses.addAll(List.of(words.split("(?<=[.;:]) ")));
            }
        }
        return clauses;
    }
}
