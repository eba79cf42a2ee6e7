import java.io.IOException;
import java.nio.file.Files;
import java.nio.file.Path;
import java.util.LinkedHashMap;
import java.util.Map;

/** The document, cut into the sections that tests quote. */
final class Document {
    private static final Path FILE = Path.of("../shared/DOC.md");

    private Document() {
    }

    private static String between(String text, String from, String to) {
        int start = text.indexOf(from);
        int end = text.indexOf(to, start + from.length());
        if (start < 0 || end < 0) {
            throw new IllegalStateException("the document has no part from " + from + " to " + to);
        }
        return text.substring(start + from.length(), end);
    }

    /** Blanks and breaks of lines are one blank. */
    static String plain(String text) {
        return text.replace("```text", " ").replace("```", " ").replaceAll("\\s+", " ").strip();
    }

    /** The sections by the names that Sentence has for them, in the document's order. */
    static Map<String, String> sections() {
        try {
            return cut(Files.readString(FILE));
        } catch (IOException e) {
            throw new IllegalStateException(e);
        }
    }

    private static Map<String, String> cut(String text) {
        Map<String, String> all = new LinkedHashMap<>();
        all.put("What it is", plain(between(text, "==== 1.\n", "## The public face")));
        all.put("==== 1.", plain(between(text, "## Terms", "==== 2.")));
        all.put("==== 2.", plain(between(text, "==== 2.", "==== 3.")));
        all.put("==== 3.", plain(between(text, "==== 3.", "==== 4.")));
        all.put("==== 4.", plain(between(text, "==== 4.", "==== 5.")));
        all.put("==== 5.", plain(between(text, "==== 5.", "Ahead of the calls")));
        for (int promise = 1; promise <= 48; promise++) {
            String section = between(text, "## Promise " + promise + ":", "\n## ");
            all.put("Promise " + promise, plain(section.substring(section.indexOf("`: ") + 3)));
        }
        return all;
    }
}
