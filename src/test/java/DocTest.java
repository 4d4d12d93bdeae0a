import java.io.IOException;
import java.nio.file.Files;
import java.nio.file.Path;
import java.util.ArrayList;
import java.util.List;
import java.util.regex.Matcher;
import java.util.regex.Pattern;
import java.util.stream.Stream;

/**
 * Every sentence of the document has a test: the words that tests quote (says(promise, "..")) stand in that promise,
 * and no word of a promise or of Terms is left that no test quotes.
 */
public final class DocTest {
  private static final Check C = new Check();
  private static final int PROMISES = 33;

  public static void main(String[] args) throws IOException {
    String doc = Files.readString(Path.of("../shared/DOC.md"));
    List<List<String>> quotes = quotes();
    for (int promise = 0; promise <= PROMISES; promise++) {
      String words = section(doc, promise);
      C.due("promise " + promise + " is told", words.isEmpty() ? 0 : 1, 1);
      C.due("words of promise " + promise + " without a test", left(words, promise, quotes.get(promise)), "");
    }
    C.end("DocTest");
  }

  /** What the tests quote, by promise (0: Terms). */
  private static List<List<String>> quotes() throws IOException {
    List<List<String>> all = new ArrayList<>();
    for (int promise = 0; promise <= PROMISES; promise++) {
      all.add(new ArrayList<>());
    }
    Pattern says = Pattern.compile("C\\.says\\((\\d+), \"([^\"]*)\"\\);");
    try (Stream<Path> files = Files.list(Path.of("src/test/java"))) {
      for (Path file : files.filter(f -> f.toString().endsWith(".java")).sorted().toList()) {
        Matcher m = says.matcher(Files.readString(file));
        while (m.find()) {
          all.get(Integer.parseInt(m.group(1))).add(m.group(2));
        }
      }
    }
    return all;
  }

  /** A promise without its heading and its signature; Terms without their marks, and the bound of calls. */
  private static String section(String doc, int promise) {
    String heading = promise == 0 ? "## Terms" : "## Promise " + promise + ": ";
    int begin = doc.indexOf(heading);
    int next = begin < 0 ? -1 : doc.indexOf("\n## ", begin + 1);
    if (next < 0) {
      return "";
    }
    String words = doc.substring(doc.indexOf('\n', begin), next);
    if (promise > 0) {
      return plain(words.substring(words.indexOf("`: ") + 3));
    }
    Matcher bound = Pattern.compile("An object is used for at most 512 calls[^;]*").matcher(doc);
    String calls = bound.find() ? bound.group() + ". " : "";
    return plain(calls + words.replaceAll("Ahead of the calls[^\n]*", "").replaceAll("==== \\d|```text|```", ""));
  }

  private static String plain(String words) {
    return words.replaceAll("\\s+", " ").trim();
  }

  /** What stays of a promise, if the words that are quoted are struck out. */
  private static String left(String words, int promise, List<String> quotes) {
    boolean[] quoted = new boolean[words.length()];
    for (String quote : quotes) {
      C.due("promise " + promise + " says: " + quote, words.contains(quote) ? 1 : 0, 1);
      for (int at = words.indexOf(quote); at >= 0 && !quote.isEmpty(); at = words.indexOf(quote, at + 1)) {
        java.util.Arrays.fill(quoted, at, at + quote.length(), true);
      }
    }
    StringBuilder left = new StringBuilder();
    for (int at = 0; at < quoted.length; at++) {
      left.append(quoted[at] ? ' ' : words.charAt(at));
    }
    return plain(left.toString().replaceAll("[.;:,]", " "));
  }
}
