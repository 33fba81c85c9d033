import java.io.IOException;
import java.nio.file.Files;
import java.nio.file.Path;
import java.util.ArrayList;
import java.util.List;

/** README.md: what stands between its fences, and the rows of its tables. */
final class Readme {
    /** What stands between two fences, with the word behind the first one. */
    static final class Block {
        final String language;
        final List<String> lines = new ArrayList<>();

        Block(String language) {
            this.language = language;
        }

        String text() {
            return String.join("\n", lines) + "\n";
        }
    }

    private static final String FENCE = "```";

    final List<Block> blocks = new ArrayList<>();
    /** The cells of each row of a table, those of its head, too. */
    final List<String[]> rows = new ArrayList<>();

    Readme(Path file) throws IOException {
        Block open = null;
        for (String line : Files.readAllLines(file)) {
            if (line.startsWith(FENCE)) {
                open = open == null ? begin(line.substring(FENCE.length())) : null;
            } else if (open != null) {
                open.lines.add(line);
            } else if (line.startsWith("|")) {
                rows.add(cells(line));
            }
        }
    }

    private Block begin(String language) {
        Block block = new Block(language);
        blocks.add(block);
        return block;
    }

    private static String[] cells(String line) {
        String[] cells = line.substring(1, line.lastIndexOf('|')).split("\\|", -1);
        for (int i = 0; i < cells.length; i++) {
            cells[i] = cells[i].trim();
        }
        return cells;
    }

    Block firstOf(String language) {
        for (Block block : blocks) {
            if (block.language.equals(language)) {
                return block;
            }
        }
        return new Block(language);
    }
}
