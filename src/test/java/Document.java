import java.io.IOException;
import java.io.UncheckedIOException;
import java.nio.file.Files;
import java.nio.file.Path;

/** The document, so that a test can show whose sentence it tests. */
final class Document {
    private static final String TEXT = read();

    private Document() {
    }

    private static String read() {
        try {
            return plain(Files.readString(Path.of("../shared/DOC.md")));
        } catch (IOException e) {
            throw new UncheckedIOException(e);
        }
    }

    private static String plain(String text) {
        return text.replaceAll("\\s+", " ");
    }

    /** Whether a sentence stands under a promise, or in what is told ahead of them all. */
    static boolean says(int promise, String sentence) {
        int first = TEXT.indexOf("## Promise 1:");
        int begin = TEXT.indexOf("## Promise " + promise + ":");
        int end = TEXT.indexOf(" ## ", begin);
        String words = plain(sentence);
        return begin >= 0 && (TEXT.substring(begin, end).contains(words) || TEXT.substring(0, first).contains(words));
    }
}
