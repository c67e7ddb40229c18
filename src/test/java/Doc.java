import java.io.IOException;
import java.io.UncheckedIOException;
import java.nio.file.Files;
import java.nio.file.Path;
import java.util.Set;
import java.util.TreeSet;
import java.util.regex.Matcher;
import java.util.regex.Pattern;

/** The document, its white space folded, so that a test can quote the sentence that it holds the class to. */
final class Doc {
    private static final Path DOCUMENT = Path.of("../shared/DOC.md");
    private static final String TEXT = fold(read());

    private Doc() {
    }

    /** A checkout without the document can still be tested: quotations are not looked up then. */
    static boolean has(String quoted) {
        return TEXT.isEmpty() || TEXT.contains(fold(quoted));
    }

    /** The calls of the public face, as "name(type,type)"; none without the document. */
    static Set<String> face() {
        Set<String> calls = new TreeSet<>();
        Matcher call = Pattern.compile("public int (\\w+)\\(([^)]*)\\);").matcher(TEXT);
        while (call.find()) {
            String types = call.group(2).replaceAll(" \\w+(, )?", ",").replaceAll(",$", "");
            calls.add(call.group(1) + "(" + types + ")");
        }
        return calls;
    }

    private static String read() {
        if (!Files.isReadable(DOCUMENT)) {
            System.out.println("no " + DOCUMENT + ": quotations are not looked up");
            return "";
        }
        try {
            return Files.readString(DOCUMENT);
        } catch (IOException unread) {
            throw new UncheckedIOException(unread);
        }
    }

    private static String fold(String text) {
        return text.replaceAll("\\s+", " ");
    }
}
