import java.lang.management.ManagementFactory;
import java.lang.reflect.Constructor;
import java.lang.reflect.Field;
import java.lang.reflect.Method;
import java.lang.reflect.Modifier;
import java.nio.file.Files;
import java.nio.file.Path;
import java.util.HashSet;
import java.util.List;
import java.util.Set;
import java.util.TreeSet;

/** What can be seen of ../shared/LANGUAGE.md in the source and in the compiled classes, and that calls make no objects. */
public final class LanguageTest {
  private static final String[] CALLS = {
      "int size(int)", "int cost(int,int)", "int rule(int,int)", "int factor(int,int,int)", "int bound(int,int)", "int less()",
      "int feed(int)", "int read()", "int ruleOf(int,int)", "int solve(int)", "long entry(int,int)", "long amount(int,int)",
      "long value(int)", "long price(int,int)", "long cut(int,int)", "long weight(int,int,int)", "int proved(int)",
      "int hand(int,int)", "int by(int)", "long points(int)", "int bites()", "int box(int)", "int nth(int)", "int many(int)",
      "int breaks(int)", "int lost(int)", "int branch(int)", "int would(int,int)", "int see(int,int)", "int fits(int,int)",
      "long odds(int,int,int,int,int)", "long mean(int)", "int drawn(int,int)", "int offer(int,int)", "int offered(int,int)",
      "int upTo(int)", "int dearest()", "int plan(int,int,int)", "int ends()", "int judge(int,int)", "int image()", "int undo()",
      "int count(int)", "int tape(int,int,int)", "int item(int,int,long)", "long peek(int,int)", "int shift(int,int,int,int,int)"};
  private static int wrong = 0;

  public static void main(String[] args) throws Exception {
    List<String> lines = Files.readAllLines(Path.of(args.length > 0 ? args[0] : "src/main/java/WholePacks.java"));
    source(lines);
    lengths(lines);
    face();
    classes();
    room();
    System.out.println(wrong == 0 ? "language: as the rules say" : "language: wrong " + wrong);
    if (wrong != 0) System.exit(1);
  }

  private static void must(boolean so, String what) {
    if (so) return;
    wrong++;
    System.out.println("language: " + what);
  }

  private static void source(List<String> lines) {
    String[] never = {"->", "::", "try {", "catch", "finally", "throw", "synchronized", "assert", "package ", "protected ", " var ",
        "Thread", "Random", "currentTime", "nanoTime", "Exact(", "instanceof", "volatile", "native", "strictfp", "static {",
        "@", "double", "float", "Object", "+ \"", "\" +", "equals", "hashCode", "toString", "List", "String"};
    boolean inComment = false;
    for (int i = 0; i < lines.size(); i++) {
      String line = lines.get(i);
      for (char c : line.toCharArray()) must(c >= 32 && c < 127, "sign " + (int) c + " in line " + (i + 1));
      String code = line.trim();
      if (code.startsWith("/*")) inComment = true;
      boolean comment = inComment || code.startsWith("//");
      if (code.endsWith("*/")) inComment = false;
      if (comment) continue;
      for (String word : never) must(!code.contains(word), word + " in line " + (i + 1));
      if (code.startsWith("import")) must(code.equals("import java.util.Arrays;"), code);
      if (code.contains("System.")) must(code.contains("System.arraycopy("), "line " + (i + 1));
    }
  }

  private static void lengths(List<String> lines) {
    int start = -1;
    for (int i = 0; i < lines.size(); i++) {
      String line = lines.get(i);
      if (line.matches("( {2}| {4})[A-Za-z].*\\) \\{")) start = i;
      if (line.matches("( {2}| {4})\\}") && start >= 0) {
        must(i - start < 60, "a long method at line " + (start + 1));
        start = -1;
      }
    }
  }

  private static void face() {
    Set<String> want = new TreeSet<>(List.of(CALLS));
    Set<String> got = new TreeSet<>();
    for (Method m : WholePacks.class.getDeclaredMethods()) {
      if (Modifier.isPrivate(m.getModifiers()) || m.isSynthetic()) continue;
      StringBuilder told = new StringBuilder(m.getReturnType() + " " + m.getName() + "(");
      for (Class<?> p : m.getParameterTypes()) told.append(told.charAt(told.length() - 1) == '(' ? "" : ",").append(p);
      got.add(told.append(')').toString());
      must(m.getModifiers() == Modifier.PUBLIC, told + " is not just public");
    }
    must(want.equals(got), "the face is " + got);
    for (Field f : WholePacks.class.getDeclaredFields()) {
      boolean constant = Set.of("NONE", "BAD", "STATE", "FULL", "NO").contains(f.getName());
      must(constant ? f.getModifiers() == (Modifier.PUBLIC | Modifier.STATIC | Modifier.FINAL) : Modifier.isPrivate(f.getModifiers()), "field " + f);
    }
    Constructor<?>[] made = WholePacks.class.getDeclaredConstructors();
    must(made.length == 1 && made[0].getParameterCount() == 0 && made[0].getModifiers() == Modifier.PUBLIC, "the constructor");
    must(WholePacks.class.getModifiers() == (Modifier.PUBLIC | Modifier.FINAL), "the class");
  }

  private static void classes() {
    Set<String> names = new HashSet<>();
    for (String call : CALLS) names.add(call.substring(call.indexOf(' ') + 1, call.indexOf('(')));
    Class<?>[] inside = WholePacks.class.getDeclaredClasses();
    must(inside.length <= 11, "classes: " + inside.length);
    for (Class<?> c : inside) {
      must(Modifier.isStatic(c.getModifiers()) && !Modifier.isPublic(c.getModifiers()), "class " + c);
      for (Method m : c.getDeclaredMethods()) must(!names.contains(m.getName()), c + " has a method " + m.getName());
      fieldsAndMethods(c);
    }
    for (Method m : WholePacks.class.getDeclaredMethods()) {
      if (Modifier.isPrivate(m.getModifiers())) must(!names.contains(m.getName()), "private " + m.getName());
    }
    fieldsAndMethods(WholePacks.class);
  }

  private static void fieldsAndMethods(Class<?> c) {
    int fields = 0;
    for (Field f : c.getDeclaredFields()) {
      if (Modifier.isStatic(f.getModifiers())) must(Modifier.isFinal(f.getModifiers()), "static " + f); else fields++;
    }
    must(fields <= 20, c + " has fields: " + fields);
    for (Method m : c.getDeclaredMethods()) must(m.getParameterCount() <= 7, "parameters of " + m);
  }

  /** The dearest calls, many times over, make nothing that stays. */
  private static void room() {
    com.sun.management.ThreadMXBean bean = (com.sun.management.ThreadMXBean) ManagementFactory.getThreadMXBean();
    dearCalls(new WholePacks());
    long start = bean.getCurrentThreadAllocatedBytes();
    WholePacks x = new WholePacks();
    long made = bean.getCurrentThreadAllocatedBytes() - start;
    must(made < 60000, "a new object takes " + made + " bytes");
    dearCalls(x);
    start = bean.getCurrentThreadAllocatedBytes();
    dearCalls(x);
    long spent = bean.getCurrentThreadAllocatedBytes() - start;
    must(spent < 20000, "the calls took " + spent + " bytes");
  }

  private static void dearCalls(WholePacks x) {
    x.size(5);
    for (int r = 0; r < 8; r++) {
      x.rule(r % 4 == 3 ? 1 : 0, 97 - r * 5);
      for (int p = 0; p < 5; p++) { x.factor(r, p, (r * 5 + p * 7) % 10); x.cost(p, 13 + p * 3); }
    }
    for (int k = 0; k < 20; k++) {
      x.solve(12);
      x.branch(0);
      x.fits(0, 0);
      x.odds(0, 90, 8, 900, 0);
      x.ends();
      x.drawn(k, 4);
      x.box(k == 0 ? 6 : 2);
      x.nth(5);
      x.many(0);
      x.lost(0);
      x.offer(k, k);
      x.tape(0, k % 5, 60);
      x.image();
      x.undo();
      for (char c : "9a+b>7;b-c<-3".toCharArray()) x.feed(c);
      x.read();
      x.less();
      x.less();
    }
  }
}
