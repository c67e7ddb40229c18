import java.io.IOException;
import java.io.UncheckedIOException;
import java.nio.file.Files;
import java.nio.file.Path;

/** The document, its white space folded, so that a test can quote the sentence that it holds the class to. */
final class Doc {
    private static final Path DOCUMENT = Path.of("../shared/DOC.md");
    private static final String TEXT = fold(read());

    private Doc() {
    }

    static boolean has(String quoted) {
        return TEXT.contains(fold(quoted));
    }

    private static String read() {
        try {
            return Files.readString(DOCUMENT);
        } catch (IOException missing) {
            throw new UncheckedIOException(missing);
        }
    }

    private static String fold(String text) {
        return text.replaceAll("\\s+", " ");
    }
}
