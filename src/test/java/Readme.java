import java.io.IOException;
import java.nio.file.Files;
import java.nio.file.Path;
import java.util.ArrayList;
import java.util.List;

/** README.md, and the blocks in it. */
final class Readme {
    private static final String FENCE = "```";

    private Readme() {
    }

    static List<String> lines() throws IOException {
        return Files.readAllLines(Path.of("README.md"));
    }

    /** The block of this language that stands under this heading; there must be one of them. */
    static String block(String heading, String language) throws IOException {
        List<String> found = blocks(heading, language);
        Check.due("blocks of " + language + " under '" + heading + "'", found.size(), 1);
        return found.isEmpty() ? "" : found.get(0);
    }

    private static List<String> blocks(String heading, String language) throws IOException {
        List<String> found = new ArrayList<String>();
        boolean under = false;
        StringBuilder block = null;
        for (String line : lines()) {
            if (block != null && line.equals(FENCE)) {
                found.add(block.toString());
                block = null;
            } else if (block != null) {
                block.append(line).append('\n');
            } else if (line.startsWith("## ")) {
                under = line.equals("## " + heading);
            } else if (under && line.equals(FENCE + language)) {
                block = new StringBuilder();
            }
        }
        return found;
    }
}
