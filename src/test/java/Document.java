import java.io.IOException;
import java.nio.file.Files;
import java.nio.file.Path;
import java.util.ArrayList;
import java.util.LinkedHashMap;
import java.util.List;
import java.util.Map;

/** The document's words: each test says which of them it holds to, so that none is left without one. */
final class Document {
    /** What stands ahead of a promise's words: its call. And what tells no bound. */
    private static final String NOT_SAID = "```(text)?|`[^`]*`:?|={4,}|Ahead of the calls .* says: ---- .*";

    private final Map<String, String> sections = new LinkedHashMap<>();
    private final Map<String, boolean[]> said = new LinkedHashMap<>();

    /** Without the file no words are looked at; the answers still are. */
    Document(Path file) throws IOException {
        if (!Files.exists(file)) {
            System.out.println("there is no " + file + ": what it says is not looked at");
            return;
        }
        for (String section : Files.readString(file).split("\n## ")) {
            int end = section.indexOf('\n');
            String heading = section.substring(0, end).replaceAll(":.*", "");
            String words = plain(section.substring(end).replaceAll(NOT_SAID, " "));
            sections.put(heading, words);
            said.put(heading, new boolean[words.length()]);
        }
    }

    private static String plain(String words) {
        return words.replaceAll("\\s+", " ").trim();
    }

    /** Whether a section has these words; they count as said. */
    boolean says(String heading, String words) {
        if (sections.isEmpty()) {
            return true;
        }
        String section = sections.get(heading);
        int at = section == null ? -1 : section.indexOf(words);
        for (int k = at; at >= 0 && k < at + words.length(); k++) {
            said.get(heading)[k] = true;
        }
        return at >= 0;
    }

    /** What no test has said of the terms and the promises. */
    List<String> left() {
        List<String> all = new ArrayList<>();
        for (String heading : sections.keySet()) {
            if (heading.equals("Terms") || heading.startsWith("Promise")) {
                addLeft(all, heading);
            }
        }
        return all;
    }

    private void addLeft(List<String> all, String heading) {
        StringBuilder rest = new StringBuilder();
        String words = sections.get(heading);
        for (int k = 0; k < words.length(); k++) {
            rest.append(said.get(heading)[k] ? '|' : words.charAt(k));
        }
        for (String piece : rest.toString().split("\\|+")) {
            if (piece.matches(".*[A-Za-z0-9].*")) {
                all.add(heading + ": " + piece);
            }
        }
    }
}
