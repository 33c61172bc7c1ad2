import java.io.IOException;
import java.nio.file.Files;
import java.nio.file.Path;

/** The document's words, one blank between any two, so that tests can quote them. */
final class Doc {
    private static final String WORDS = read();

    private Doc() {
    }

    static String words() {
        return WORDS;
    }

    private static String read() {
        try {
            return Files.readString(Path.of("../shared/DOC.md")).replaceAll("\\s+", " ");
        } catch (IOException e) {
            throw new IllegalStateException("no document at ../shared/DOC.md", e);
        }
    }
}
