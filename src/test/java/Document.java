import java.io.IOException;
import java.io.UncheckedIOException;
import java.nio.file.Files;
import java.nio.file.Path;

/** The document that the tests quote, cut into its promises; 0 is all that stands ahead of the first. */
final class Document {
    static final int PROMISES = 28;

    private static final String TEXT = read();

    private Document() {
    }

    static Path root() {
        return Path.of(System.getProperty("project.root", ".")).toAbsolutePath();
    }

    static boolean has(int promise, String words) {
        return part(promise).contains(words);
    }

    static String part(int promise) {
        int from = promise == 0 ? 0 : TEXT.indexOf("## Promise " + promise + ":");
        String next = promise == PROMISES ? "## Not promised" : "## Promise " + (promise + 1) + ":";
        return TEXT.substring(from, TEXT.indexOf(next));
    }

    private static String read() {
        try {
            return Files.readString(root().resolve("../shared/DOC.md")).replaceAll("\\s+", " ");
        } catch (IOException e) {
            throw new UncheckedIOException(e);
        }
    }
}
