import java.io.IOException;
import java.io.UncheckedIOException;
import java.nio.file.Files;
import java.nio.file.Path;
import java.util.ArrayList;
import java.util.LinkedHashMap;
import java.util.List;
import java.util.Map;

/**
 * The sentences of ../shared/DOC.md, by heading. A test names the sentence that it is about; what no
 * test has named is found by 'nothingLeft', so that no boundary can be overlooked, also in a later
 * edition of the document.
 */
final class Document {
    private static final class Sentence {
        final String text;
        final boolean[] named;

        Sentence(String text) {
            this.text = text;
            this.named = new boolean[text.length()];
        }

        boolean name(String words) {
            int place = text.indexOf(words);
            for (int i = 0; place >= 0 && i < words.length(); i++) {
                named[place + i] = true;
            }
            return place >= 0;
        }

        String left() {
            StringBuilder left = new StringBuilder();
            for (int i = 0; i < named.length; i++) {
                if (!named[i] && Character.isLetterOrDigit(text.charAt(i))) {
                    left.append(text.charAt(i));
                }
            }
            return left.toString();
        }
    }

    private static final Path FILE = Path.of("../shared/DOC.md");
    private static final Map<String, List<Sentence>> BY_HEADING = read();

    private Document() {
    }

    private static Map<String, List<Sentence>> read() {
        Map<String, List<Sentence>> all = new LinkedHashMap<String, List<Sentence>>();
        List<Sentence> under = new ArrayList<Sentence>();
        for (String line : lines()) {
            if (line.startsWith("## ")) {
                under = new ArrayList<Sentence>();
                all.put(line.substring(3).split(":")[0], under);
            } else if (!line.startsWith("#") && !line.startsWith("```") && !line.isBlank()) {
                // A promise's first line has the call in front of what it says.
                String said = line.strip().replaceFirst("^`[^`]*\\)[^`]*`: ", "");
                for (String one : said.split("(?<=\\.) ")) {
                    under.add(new Sentence(one));
                }
            }
        }
        return all;
    }

    private static List<String> lines() {
        try {
            return Files.readAllLines(FILE);
        } catch (IOException e) {
            throw new UncheckedIOException(e);
        }
    }

    /** What follows is a test of these words. */
    static void says(String heading, String words) {
        Check.about(heading + ", '" + words + "'");
        name(heading, words);
    }

    static void terms(String words) {
        says("Terms", words);
    }

    static void promise(int number, String words) {
        says("Promise " + number, words);
    }

    /** These words name no boundary: other tests look at them, if they promise anything. */
    static void noBoundary(String heading, String... all) {
        Check.about("");
        for (String words : all) {
            name(heading, words);
        }
    }

    private static void name(String heading, String words) {
        boolean found = false;
        for (Sentence one : BY_HEADING.getOrDefault(heading, new ArrayList<Sentence>())) {
            found = one.name(words) || found;
        }
        Check.due("the document says so", found);
    }

    static void nothingLeft(String... headings) {
        Check.about("");
        for (String heading : headings) {
            Check.due("the document has a part '" + heading + "'", BY_HEADING.containsKey(heading));
            for (Sentence one : BY_HEADING.getOrDefault(heading, new ArrayList<Sentence>())) {
                Check.due("a test names all of '" + one.text + "' (" + heading + "), left", one.left(), "");
            }
        }
    }

    static void nothingLeft(int first, int last) {
        for (int i = first; i <= last; i++) {
            nothingLeft("Promise " + i);
        }
    }

    /** Every part of the document is one of these. */
    static void noOtherParts(List<String> known) {
        Check.due("the parts of the document", BY_HEADING.keySet().toString(), known.toString());
    }
}
