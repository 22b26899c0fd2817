import java.io.IOException;
import java.io.UncheckedIOException;
import java.nio.file.Files;
import java.nio.file.Path;

/** The document, its lines joined, so that a sentence that runs over several of them can be found. */
final class Document {
    private static final String TEXT = read();

    private Document() {
    }

    static boolean says(String sentence) {
        return TEXT.contains(sentence);
    }

    private static String read() {
        try {
            return Files.readString(Path.of("../shared/DOC.md")).replaceAll("\\s+", " ");
        } catch (IOException e) {
            throw new UncheckedIOException(e);
        }
    }
}
