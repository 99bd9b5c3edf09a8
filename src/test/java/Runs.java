import java.lang.reflect.InvocationTargetException;
import java.lang.reflect.Method;
import java.nio.file.Files;
import java.nio.file.Path;
import java.util.Arrays;
import java.util.HashSet;
import java.util.LinkedHashMap;
import java.util.Map;
import java.util.Set;

/**
 * Runs of calls with their answers written out. A run is a row of calls on a new object, told as
 * "call arguments = answer", with | between; "text ..." feeds its signs, ~ being a blank. Every run
 * is held against the Oracle too, so that a slip in an answer written by hand shows.
 */
final class Runs {
  static final int MOST_CALLS = 512;
  private static final Map<String, Method> PROGRAM = new LinkedHashMap<>();
  private static final Map<String, Method> ORACLE = new LinkedHashMap<>();
  private static final Set<Integer> TESTED = new HashSet<>();
  private static String document = null;
  private static int wrong = 0;
  private static int runs = 0;

  static {
    for (Method m : WholePacks.class.getDeclaredMethods()) {
      if (java.lang.reflect.Modifier.isPublic(m.getModifiers())) PROGRAM.put(m.getName(), m);
    }
    for (Method m : Oracle.class.getDeclaredMethods()) {
      Method there = PROGRAM.get(m.getName());
      if (there != null && Arrays.equals(there.getParameterTypes(), m.getParameterTypes())) ORACLE.put(m.getName(), m);
    }
  }

  private Runs() { }

  /** Holds the class to a sentence of the document, which must stand there word by word. */
  static void holds(int promise, String sentence, String... told) throws Exception {
    if (!stands(sentence)) say("the document does not say: " + sentence);
    if (told.length == 0) say("no run for: " + sentence);
    for (String calls : told) run(promise, sentence, calls);
  }

  /** A sentence to which a test holds the class by its own means, not by runs. */
  static void quotes(int promise, String sentence) throws Exception {
    if (!stands(sentence)) say("the document does not say: " + sentence);
    TESTED.add(promise);
  }

  /** A new object behind these calls; their answers are looked at where they are told. */
  static WholePacks after(String calls) throws Exception {
    WholePacks made = new WholePacks();
    for (String call : calls.split("\\|")) {
      if (call.isBlank()) continue;
      String[] sides = call.split(" = ");
      long got = ask(made, sides[0]);
      if (sides.length > 1 && got != told(sides[1].trim())) say(call.trim() + ": answered " + got);
    }
    return made;
  }

  static void must(boolean so, String what) {
    if (!so) say(what);
  }

  /** One run for a promise as a whole. */
  static void run(int promise, String calls) throws Exception {
    run(promise, "", calls);
  }

  private static void run(int promise, String sentence, String calls) throws Exception {
    TESTED.add(promise);
    runs++;
    WholePacks program = new WholePacks();
    Oracle oracle = new Oracle();
    int made = 0;
    for (String call : calls.split("\\|")) {
      String c = call.trim();
      if (c.isEmpty()) continue;
      if (c.startsWith("text ")) {
        for (char sign : c.substring(5).replace('~', ' ').toCharArray()) { program.feed(sign); oracle.feed(sign); made++; }
        continue;
      }
      String[] sides = c.split(" = ");
      String[] words = sides[0].trim().split(" +");
      long want = told(sides[1].trim());
      made++;
      due(promise, sentence, "the program", calls, c, answer(PROGRAM, program, words), want);
      due(promise, sentence, "the oracle", calls, c, answer(ORACLE, oracle, words), want);
    }
    if (made > MOST_CALLS) say("promise " + promise + ": a run of " + made + " calls: " + sentence);
  }

  /** What the program answers to one call, told in words. */
  static long ask(WholePacks program, String call) throws Exception {
    return answer(PROGRAM, program, call.trim().split(" +"));
  }

  static long told(String word) {
    switch (word) {
      case "NO": return Long.MIN_VALUE;
      case "LOW": return Integer.MIN_VALUE;
      case "HIGH": return Integer.MAX_VALUE;
      default: return Long.parseLong(word);
    }
  }

  private static long answer(Map<String, Method> from, Object on, String[] words) throws Exception {
    Method m = from.get(words[0]);
    if (m == null || m.getParameterCount() != words.length - 1) throw new IllegalStateException("no such call: " + String.join(" ", words));
    Object[] given = new Object[words.length - 1];
    for (int i = 0; i < given.length; i++) {
      long v = told(words[i + 1]);
      if (m.getParameterTypes()[i] == int.class) given[i] = Math.toIntExact(v); else given[i] = v;
    }
    try {
      return ((Number) m.invoke(on, given)).longValue();
    } catch (InvocationTargetException e) {
      System.out.println(m.getName() + " threw " + e.getCause());
      return 123456789;
    }
  }

  private static void due(int promise, String sentence, String who, String run, String call, long got, long want) {
    if (got == want) return;
    say("promise " + promise + (sentence.isEmpty() ? "" : " (" + sentence + ")") + ": " + call + ": " + who + " answered " + got
        + " in: " + (run.length() > 200 ? run.substring(0, 200) + ".." : run));
  }

  static void say(String what) {
    wrong++;
    System.out.println(what);
  }

  /** Whether the document has these words; where there is no document, all is taken to stand. */
  private static boolean stands(String sentence) throws Exception {
    if (document == null) {
      Path at = Path.of("../shared/DOC.md");
      document = Files.exists(at) ? plain(Files.readString(at)) : "";
    }
    return document.isEmpty() || document.contains(plain(sentence));
  }

  private static String plain(String text) {
    return text.replaceAll("\\s+", " ");
  }

  /** Each of these promises must have had a run; ends with exit code 1, if something was wrong. */
  static void end(String name, int first, int last) {
    for (int p = first; p <= last; p++) if (!TESTED.contains(p)) say("promise " + p + " has no test");
    System.out.println(name + ": " + (runs > 0 ? runs + " runs, " : "") + (wrong == 0 ? "all answers are as due" : wrong + " are not as due"));
    if (wrong != 0) System.exit(1);
  }

  /** The calls that make a problem: costs, then rules as sort, bound, factors. */
  static String problem(int[] costs, int[][] rules) {
    StringBuilder calls = new StringBuilder("size " + costs.length + " = 2 | ");
    for (int p = 0; p < costs.length; p++) calls.append("cost ").append(p).append(' ').append(costs[p]).append(" = 1 | ");
    for (int r = 0; r < rules.length; r++) {
      calls.append("rule ").append(rules[r][0]).append(' ').append(rules[r][1]).append(" = ").append(r).append(" | ");
      for (int p = 0; p < costs.length; p++) {
        calls.append("factor ").append(r).append(' ').append(p).append(' ').append(rules[r][2 + p]).append(" = 100 | ");
      }
    }
    return calls.toString();
  }
}
