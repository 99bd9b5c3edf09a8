import java.nio.file.Files;
import java.nio.file.Path;
import java.util.ArrayList;
import java.util.Arrays;
import java.util.List;
import java.util.regex.Matcher;
import java.util.regex.Pattern;
import java.util.stream.Stream;

/**
 * Nothing that the document promises is without a test: each of its words, from "==== 1" to "## Not promised", stands in
 * a sentence that some test quotes (holds(..), quotes(..)), but for heads, the forms of calls, and what groups them.
 * What stands under a promise's head must be quoted for that promise.
 */
public final class ReadingTest {
  private static final Pattern QUOTE = Pattern.compile("(?:holds\\((\\d+), |quotes\\((\\d+), |String sentence = )\"((?:[^\"\\\\]|\\\\.)*)\"");
  private static final String[] NOT_PROMISED = {"## Promise \\d+: [A-Za-z ]+? (?=`)", "`[A-Za-z]* ?[A-Za-z]+\\([^)]*\\)`:", "Ahead of the calls (`[A-Za-z]+`(, )?)+ the interface says: ---- [a-z ,]+\\.",
      "==== \\d", "```(text)?", "More precisely\\.", "The constants:"};

  public static void main(String[] args) throws Exception {
    Path at = Path.of("../shared/DOC.md");
    if (!Files.exists(at)) {
      System.out.println("reading: there is no document");
      return;
    }
    String document = plain(Files.readString(at));
    int from = document.indexOf("==== 1");
    int to = document.indexOf("## Not promised");
    if (from < 0 || to < from) throw new IllegalStateException("the document is another");
    document = document.substring(from, to);
    char[] left = document.toCharArray();
    int quotes = 0;
    for (String test : tests()) {
      Matcher m = QUOTE.matcher(test);
      while (m.find()) {
        String promise = m.group(1) != null ? m.group(1) : m.group(2);
        strike(left, document, plain(m.group(3)), promise == null ? "" : promise);
        quotes++;
      }
    }
    String rest = plain(new String(left));
    for (String other : NOT_PROMISED) rest = rest.replaceAll(other, " ");
    if (rest.matches("(?s).*[A-Za-z0-9].*")) {
      System.out.println("reading: no test quotes: " + plain(rest));
      System.exit(1);
    }
    System.out.println("reading: " + quotes + " quotes, and no sentence without one");
  }

  private static List<String> tests() throws Exception {
    Path[] found;
    try (Stream<Path> files = Files.list(Path.of("src/test/java"))) {
      found = files.filter(f -> f.toString().endsWith("Test.java")).sorted().toArray(Path[]::new);
    }
    List<String> told = new ArrayList<>();
    for (Path test : found) told.add(Files.readString(test));
    return told;
  }

  /** What is quoted is struck out in the Terms, and under the head of its promise ("": of any). */
  private static void strike(char[] left, String document, String quote, String promise) {
    for (int i = document.indexOf(quote); i >= 0; i = document.indexOf(quote, i + 1)) {
      int head = document.lastIndexOf("## Promise ", i);
      if (head >= 0 && !promise.isEmpty() && !document.startsWith("## Promise " + promise + ":", head)) continue;
      Arrays.fill(left, i, i + quote.length(), ' ');
    }
  }

  private static String plain(String text) {
    return text.replaceAll("\\s+", " ");
  }
}
