import java.io.IOException;
import java.nio.file.Files;
import java.nio.file.Path;
import java.util.ArrayList;
import java.util.LinkedHashMap;
import java.util.List;
import java.util.Map;

/** The document, by headings, and which of its words have been quoted. */
final class Document {
    private final Map<String, String> texts = new LinkedHashMap<>();
    private final Map<String, boolean[]> quoted = new LinkedHashMap<>();

    Document(Path file) throws IOException {
        String heading = "";
        StringBuilder text = new StringBuilder();
        for (String line : Files.readAllLines(file)) {
            if (line.startsWith("#")) {
                keep(heading, text);
                heading = line.replaceFirst("#+ *", "");
                text.setLength(0);
            } else {
                text.append(line).append(' ');
            }
        }
        keep(heading, text);
    }

    private void keep(String heading, StringBuilder text) {
        texts.put(heading, text.toString().replaceAll("\\s+", " "));
        quoted.put(heading, new boolean[texts.get(heading).length()]);
    }

    /** Whether these words stand under that heading. */
    boolean quote(String heading, String words) {
        String text = texts.getOrDefault(heading, "");
        int at = text.indexOf(words);
        if (at < 0) {
            return false;
        }
        while (at >= 0) {
            for (int i = at; i < at + words.length(); i++) {
                quoted.get(heading)[i] = true;
            }
            at = text.indexOf(words, at + 1);
        }
        return true;
    }

    /** What has not been quoted, but for signatures, and for signs that are no letters and no digits. */
    List<String> left() {
        List<String> left = new ArrayList<>();
        for (Map.Entry<String, String> entry : texts.entrySet()) {
            StringBuilder words = new StringBuilder();
            for (int i = 0; i <= entry.getValue().length(); i++) {
                boolean ends = i == entry.getValue().length() || quoted.get(entry.getKey())[i];
                if (!ends) {
                    words.append(entry.getValue().charAt(i));
                } else {
                    String text = words.toString().trim();
                    if (text.matches(".*[A-Za-z0-9].*") && !text.matches("`[^`]*`:")) {
                        left.add(entry.getKey() + ": " + text);
                    }
                    words.setLength(0);
                }
            }
        }
        return left;
    }
}
