import java.nio.file.Files;
import java.nio.file.Path;
import java.util.regex.Matcher;
import java.util.regex.Pattern;

/** README.md's calls must answer what stands behind them there. */
public final class ReadmeTest {
  private static final Pattern CALL = Pattern.compile("x\\.(\\w+)\\(([^)]*)\\); +// (-?\\d+|NO)\\b.*");
  private static final Pattern FEED = Pattern.compile("for \\(char sign : \"([^\"]*)\"\\.toCharArray\\(\\)\\) x\\.feed\\(sign\\); +//.*");

  public static void main(String[] args) throws Exception {
    WholePacks x = null;
    boolean inCode = false;
    int calls = 0;
    for (String line : Files.readAllLines(Path.of("README.md"))) {
      if (line.startsWith("```")) {
        inCode = line.equals("```java");
        continue;
      }
      if (!inCode) continue;
      Matcher call = CALL.matcher(line);
      Matcher feed = FEED.matcher(line);
      if (line.startsWith("WholePacks x = new WholePacks();")) {
        x = new WholePacks();
      } else if (feed.matches()) {
        for (char sign : feed.group(1).toCharArray()) x.feed(sign);
      } else if (call.matches()) {
        long got = Runs.ask(x, call.group(1) + " " + call.group(2).replace(",", " "));
        Runs.must(got == Runs.told(call.group(3)), line + " answered " + got);
        calls++;
      } else {
        Runs.say("not understood: " + line);
      }
    }
    Runs.must(calls > 50, "README.md has calls: " + calls);
    Runs.end("readme, " + calls + " calls", 1, 0);
  }
}
