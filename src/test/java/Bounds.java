import java.io.IOException;
import java.io.UncheckedIOException;
import java.nio.file.Files;
import java.nio.file.Path;

/** Runs tests that are each named by the words of the document whose edge they ask; the words must stand there. */
final class Bounds {
    private static final Path DOCUMENT = Path.of("../shared/DOC.md");

    private final Checks checks;
    private final String document;

    Bounds(Checks checks) {
        this.checks = checks;
        this.document = read();
    }

    private static String read() {
        try {
            return Files.exists(DOCUMENT) ? squeezed(Files.readString(DOCUMENT)) : "";
        } catch (IOException problem) {
            throw new UncheckedIOException(problem);
        }
    }

    private static String squeezed(String text) {
        return text.replaceAll("\\s+", " ");
    }

    /** One sentence's test; where the document is not at hand its words can't be looked for. */
    void test(String words, Runnable test) {
        checks.about(words);
        if (!document.isEmpty()) {
            checks.due("these words stand in the document", document.contains(squeezed(words)), true);
        }
        test.run();
        checks.about("");
    }
}
