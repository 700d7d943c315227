import java.io.IOException;
import java.nio.file.Files;
import java.nio.file.Path;

/** The document, part by part, so that a test that quotes a sentence can tell that it still stands there. */
final class Doc {
  private static final Path FILE = Path.of("../shared/DOC.md");
  private static final String TEXT = read();

  private Doc() {}

  private static String read() {
    try {
      return plain(Files.readString(FILE));
    } catch (IOException e) {
      return "";
    }
  }

  private static String plain(String text) {
    return text.replaceAll("\\s+", " ");
  }

  /** Whether a promise (0: what stands ahead of them) says so; yes if there is no document to look into. */
  static boolean says(int promise, String sentence) {
    return TEXT.isEmpty() || part(promise).contains(plain(sentence));
  }

  private static String part(int promise) {
    int from = promise == 0 ? 0 : TEXT.indexOf("## Promise " + promise + ":");
    int to = TEXT.indexOf("## Promise " + (promise + 1) + ":");
    int end = to < 0 ? TEXT.indexOf("## Not promised") : to;
    return from < 0 || end < from ? "" : TEXT.substring(from, end);
  }
}
