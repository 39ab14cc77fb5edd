import java.io.IOException;
import java.nio.charset.StandardCharsets;
import java.nio.file.Files;
import java.nio.file.Path;
import java.util.LinkedHashSet;
import java.util.Set;

/**
 * A test of one sentence of the document that names a boundary case. Its words are quoted as they stand there, so
 * that a sentence without a test, and a test whose sentence has changed, can be found.
 */
final class Sentence {
    private static final Path DOCUMENT = Path.of("../shared/DOC.md");
    private static final Set<String> QUOTED = new LinkedHashSet<>();

    private Sentence() { }

    /** The place is a promise's number, or a word of the document's terms; a fault is told with it. */
    static void holds(String place, String words, Check.Act test) {
        QUOTED.add(words);
        Check.of(place + ": " + words);
        try {
            test.go();
        } catch (RuntimeException e) {
            Check.fault("the test itself threw " + e);
        }
        Check.of("");
    }

    static void end() {
        if (Files.isRegularFile(DOCUMENT)) {
            String document = document();
            for (String words : QUOTED) {
                Check.yes("the document says: " + words, document.contains(words));
            }
        } else {
            System.out.println("the document is not there, so the quotes are not looked up");
        }
        System.out.print(QUOTED.size() + " sentences, ");
        Check.end();
    }

    private static String document() {
        try {
            return Files.readString(DOCUMENT, StandardCharsets.UTF_8).replaceAll("\\s+", " ");
        } catch (IOException e) {
            throw new IllegalStateException(e);
        }
    }
}
