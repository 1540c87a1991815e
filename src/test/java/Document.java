import java.io.IOException;
import java.io.UncheckedIOException;
import java.nio.file.Files;
import java.nio.file.Path;
import java.util.HashSet;
import java.util.Set;

/** The sentences of the document that name a boundary case, as the tests of them quote them. */
final class Document {
    private static final Path PLACE = Path.of("../shared/DOC.md");
    private static final int PROMISES = 24;
    private static final String[] PARTS = parts();
    private static final Set<String> QUOTED = new HashSet<>();

    private Document() {
    }

    /** The text ahead of the promises, then each promise, with one blank for each row of blanks and line ends. */
    private static String[] parts() {
        String[] parts = new String[PROMISES + 1];
        try {
            String text = Files.exists(PLACE) ? Files.readString(PLACE) : "";
            text = text.split("\n## Not promised", 2)[0];
            for (int i = 0; i < PROMISES && !text.isEmpty(); i++) {
                String[] two = text.split("\n## Promise " + (i + 1) + ":", 2);
                parts[i] = two[0].replaceAll("[ ]+", " ");
                text = two.length > 1 ? two[1] : "";
                parts[i + 1] = text.replaceAll("[ ]+", " ");
            }
            return parts;
        } catch (IOException e) {
            throw new UncheckedIOException(e);
        }
    }

    /** Quotes a sentence of the text ahead of the promises. */
    static void says(String sentence) {
        promises(0, sentence);
    }

    /** Quotes a sentence of a promise: the test behind it is the test of that sentence. */
    static void promises(int number, String sentence) {
        QUOTED.add(number + ": " + sentence);
        if (PARTS[number] != null) {
            String text = PARTS[number].replace('\n', ' ');
            Checks.due("the document says: " + sentence, true, () -> text.contains(sentence));
        }
    }

    /** Checks that what each promise throws, and what it returns, is quoted by a test. */
    static void dueAllQuoted() {
        for (int i = 1; i <= PROMISES && PARTS[i] != null; i++) {
            for (String line : PARTS[i].split("\n")) {
                boolean saysMore = line.startsWith("Throws ") || line.startsWith("Returns ");
                if (saysMore && !line.equals("Returns this.")) {
                    String quote = i + ": " + line;
                    Checks.due("a test quotes promise " + quote, true, () -> QUOTED.contains(quote));
                }
            }
        }
    }
}
