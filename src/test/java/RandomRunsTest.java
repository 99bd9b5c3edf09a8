import java.lang.reflect.InvocationTargetException;
import java.lang.reflect.Method;
import java.util.ArrayList;
import java.util.List;
import java.util.Random;
import java.util.TreeMap;

/** Long runs of drawn calls, each answer held against the Oracle's. The seeds are fixed: every run is the same again. */
public final class RandomRunsTest {
  static final Method[] CALLS = facesCalls();
  static final TreeMap<String, Integer> ANSWERS = new TreeMap<>();
  static int wrong = 0;

  WholePacks program = new WholePacks();
  Oracle oracle = new Oracle();
  final Random random;
  final List<String> told = new ArrayList<>();
  final long seed;

  RandomRunsTest(long seed) {
    this.seed = seed;
    random = new Random(seed);
  }

  static Method[] facesCalls() {
    List<Method> all = new ArrayList<>();
    for (Method m : WholePacks.class.getDeclaredMethods()) {
      if (java.lang.reflect.Modifier.isPublic(m.getModifiers())) all.add(m);
    }
    all.sort(java.util.Comparator.comparing(Method::getName));
    return all.toArray(new Method[0]);
  }

  /** False: an answer was wrong, and the run is over. */
  boolean call(String name, Object... args) {
    if (told.size() >= 512) return true;
    for (Method m : CALLS) {
      if (!m.getName().equals(name)) continue;
      long got;
      long want;
      try {
        got = ((Number) m.invoke(program, args)).longValue();
        Method o = Oracle.class.getDeclaredMethod(name, m.getParameterTypes());
        want = ((Number) o.invoke(oracle, args)).longValue();
      } catch (InvocationTargetException e) {
        System.out.println("seed " + seed + ": " + name + java.util.Arrays.toString(args) + " threw " + e.getCause());
        wrong++;
        return false;
      } catch (ReflectiveOperationException e) {
        throw new IllegalStateException(e);
      }
      told.add(name + java.util.Arrays.toString(args) + " = " + want);
      ANSWERS.merge(name + " " + (want < 0 && want > -20 ? "" + want : want == Oracle.NO ? "NO" : "other"), 1, Integer::sum);
      if (got == want) return true;
      System.out.println("seed " + seed + ": " + told + " but the program answered " + got);
      wrong++;
      return false;
    }
    throw new IllegalStateException("no call " + name);
  }

  int below(int n) { return random.nextInt(n); }

  /** Mostly from low to high, now and then just beside, seldom anything. */
  int about(int low, int high) {
    int d = below(40);
    if (d == 0) return low - 1;
    if (d == 1) return high + 1;
    if (d == 2) return random.nextBoolean() ? Integer.MIN_VALUE : Integer.MAX_VALUE;
    return low + below(high - low + 1);
  }

  /** Five packs, many rules with factors of both signs, far bounds: numbers grow, and some runs are stuck. */
  boolean buildFar() {
    int n = below(4) == 0 ? 4 : 5;
    boolean dear = below(4) > 0;
    boolean ok = call("size", n);
    for (int p = 0; p < n && ok; p++) ok = call("cost", p, dear ? below(100) : below(3));
    int rules = 5 + below(4);
    int high = below(2) == 0 ? 1000 : 100;
    for (int r = 0; r < rules && ok; r++) {
      ok = call("rule", below(6) == 0 ? 1 : 0, below(high));
      for (int p = 0; p < n && ok; p++) ok = call("factor", r, p, below(3) == 0 ? below(19) - 9 : below(10));
    }
    return ok;
  }

  /** Few rules, and costs alike: many ties. */
  boolean buildEven() {
    int n = 2 + below(3);
    boolean ok = call("size", n);
    int cost = 1 + below(3);
    for (int p = 0; p < n && ok; p++) ok = call("cost", p, cost);
    int rules = 1 + below(4);
    for (int r = 0; r < rules && ok; r++) {
      int factor = 2 + below(3);
      ok = call("rule", below(4) == 0 ? 1 : 0, 1 + below(20));
      for (int p = 0; p < n && ok; p++) ok = call("factor", r, p, below(3) > 0 ? factor : below(4));
    }
    return ok;
  }

  boolean build(int heaviness) {
    if (heaviness == 3) return buildFar();
    if (heaviness == 4) return buildEven();
    int n = 1 + below(5);
    boolean ok = call("size", n);
    for (int p = 0; p < n && ok; p++) if (below(3) > 0) ok = call("cost", p, below(heaviness == 0 ? 10 : 100));
    int rules = below(7);
    for (int r = 0; r < rules && ok; r++) {
      boolean most = below(3) == 0;
      int high = heaviness == 0 ? 30 : heaviness == 1 ? 100 : 1000;
      ok = call("rule", most ? 1 : 0, below(8) == 0 ? -below(100) : below(high));
      for (int p = 0; p < n && ok; p++) {
        int f = below(5) == 0 ? below(19) - 9 : heaviness == 2 ? 9 - below(4) : below(10);
        ok = call("factor", r, p, f);
      }
    }
    return ok;
  }

  boolean feedText() {
    int n = oracle.s.q.n;
    StringBuilder t = new StringBuilder();
    int clauses = 1 + below(5);
    for (int c = 0; c < clauses; c++) {
      if (c > 0) t.append(';');
      if (below(3) == 0) t.append('-');
      int terms = 1 + below(4);
      for (int k = 0; k < terms; k++) {
        if (k > 0) t.append(below(2) == 0 ? '+' : '-');
        if (below(2) == 0) t.append((char) ('0' + below(10)));
        t.append((char) ('a' + below(n)));
      }
      t.append(below(2) == 0 ? '>' : '<');
      if (below(3) == 0) t.append('-');
      t.append(below(below(3) == 0 ? 1000 : 100));
    }
    int change = below(3);
    String any = "-+<>;0123456789abcdefg AZ";
    if (change == 0 && t.length() > 0) t.setCharAt(below(t.length()), any.charAt(below(any.length())));
    if (change == 1 && below(2) == 0) t.setLength(below(t.length() + 1));
    boolean ok = true;
    for (int i = 0; i < t.length() && ok; i++) ok = call("feed", (int) t.charAt(i));
    return ok && call("read");
  }

  boolean look() {
    boolean ok = call("value", 0) && call("value", 1);
    int n = oracle.s.q.n;
    for (int w = 0; w <= 9 && ok; w++) ok = call("count", w);
    for (int p = 0; p < n && ok; p++) ok = call("amount", p, 0) && call("amount", p, 1);
    for (int r = -2; r <= oracle.count(2) && ok; r++) {
      for (int c = 0; c <= n + 1 && ok; c++) ok = call("entry", r, c);
    }
    for (int c = 0; c < oracle.count(3) && ok; c++) {
      for (int p = 0; p <= n && ok; p++) ok = call("cut", c, p);
      ok = ok && call("proved", c);
    }
    return ok;
  }

  boolean anyCall() {
    Oracle o = oracle;
    int n = o.s.q.n, m = o.s.q.rules.size();
    int top = (int) Math.pow(10, n) - 1;
    switch (below(46)) {
      case 0: return below(12) > 0 || call("size", about(1, 5));
      case 1: return below(3) > 0 || call("cost", about(0, n - 1), about(0, 99));
      case 2: return below(2) > 0 || call("rule", about(0, 1), about(-99, 999));
      case 3: return call("factor", about(0, m), about(0, n - 1), about(-9, 9));
      case 4: return call("bound", about(0, m), about(-99, 999));
      case 5: return below(4) > 0 || call("less");
      case 6: return call("feed", about(0, 127));
      case 7: return below(3) > 0 || call("read");
      case 8: return call("ruleOf", about(0, m), about(0, n + 1));
      case 9: case 10: return call("solve", about(0, 12));
      case 11: return call("entry", about(-2, 20), about(0, n + 1));
      case 12: return call("amount", about(0, n - 1), about(0, 1));
      case 13: return call("value", about(0, 1));
      case 14: return call("price", about(0, m), about(0, 1));
      case 15: return call("cut", about(0, o.count(3)), about(0, n));
      case 16: return call("weight", about(0, o.count(3)), below(2) == 0 ? about(10, 18) : about(20, 32), about(0, 1));
      case 17: return call("proved", about(0, o.count(3)));
      case 18: return call("hand", about(0, m), about(0, 9));
      case 19: return call("by", about(1, 10));
      case 20: return call("points", about(0, n));
      case 21: return call("bites");
      case 22: return call("box", about(0, below(20) == 0 ? 6 : n > 3 ? 2 : 4));
      case 23: return call("nth", about(0, 19));
      case 24: return call("many", about(0, 1));
      case 25: return call("breaks", about(0, top));
      case 26: return call("lost", about(-1, o.count(3)));
      case 27: return call("branch", about(0, n + 3));
      case 28: return call("would", about(0, m), about(-99, 999));
      case 29: return call("see", about(below(9) == 0 ? -1 : 0, n - 1), about(0, below(2) == 0 ? 5 : 999));
      case 30: return below(2) > 0 || call("fits", about(0, m), about(0, 1));
      case 31: return below(2) > 0 || call("odds", about(0, m), about(-99, 999), about(1, 8), about(0, 300), about(0, 1));
      case 32: return call("mean", about(0, 1));
      case 33: return call("drawn", random.nextInt(), about(1, 4));
      case 34: return call("offer", about(0, below(2) == 0 ? top : 9), about(0, 999));
      case 35: return offerMany(top);
      case 36: return call("offered", about(0, o.count(7)), about(0, 2));
      case 37: return call("upTo", about(0, 300));
      case 38: return call("dearest");
      case 39: return call("plan", about(below(9) == 0 ? -1 : 0, 2), about(0, Math.max(m, n) - 1), about(-9, below(2) == 0 ? 9 : 99));
      case 40: return call("ends");
      case 41: return judgeSome(n);
      case 42: return below(4) > 0 || call("image");
      case 43: return below(6) > 0 || call("undo");
      case 44: return call("count", about(0, 9));
      default: return onTapes();
    }
  }

  boolean offerMany(int top) {
    boolean ok = true;
    int more = below(6) == 0 ? 22 : 3;
    for (int k = 0; k < more && ok; k++) ok = call("offer", below(top + 1), below(60));
    for (int k = 0; k < oracle.count(7) && ok; k++) ok = call("offered", k, below(3));
    return ok && call("upTo", below(200)) && call("dearest");
  }

  /** A tape with the due amounts, but for at most one. */
  boolean judgeSome(int n) {
    if (below(3) == 0) return call("judge", about(0, 5), about(0, 60));
    int at = below(4);
    int tape = below(6);
    boolean ok = call("tape", tape, below(9) == 0 ? about(-1, 4) : 2, at + n - (below(3) == 0 ? 1 : 0));
    for (int p = 0; p < n && ok; p++) {
      long v = oracle.tab == null ? 0 : oracle.tab.amount(p).floor().longValueExact();
      ok = call("item", tape, at + p, v + (below(6) == 0 ? 1 : 0));
    }
    return ok && call("judge", tape, at);
  }

  boolean onTapes() {
    int tape = about(0, 5);
    int other = about(0, 5);
    switch (below(7)) {
      case 0: return call("tape", tape, about(-1, 4), about(0, 60));
      case 1: return call("item", tape, about(0, 59), random.nextLong());
      case 2: return call("peek", tape, about(0, 59));
      case 3: return call("shift", tape, about(0, 20), other, about(0, 20), about(0, 20));
      default: return shiftSome(tape, other, below(5), 4 + below(20));
    }
  }

  boolean shiftSome(int tape, int other, int sort, int n) {
    boolean ok = call("tape", tape, sort, n) && call("tape", other, sort, n);
    for (int k = 0; k < 6 && ok; k++) ok = call("item", tape, below(n), random.nextLong()) && call("item", other, below(n), random.nextLong());
    ok = ok && call("shift", tape, about(0, n / 2), other, about(0, n / 2), about(0, n / 2));
    for (int k = 0; k < n && ok; k++) ok = call("peek", other, k) && call("peek", tape, k);
    return ok;
  }

  void run() {
    boolean ok = true;
    while (ok && told.size() < 512) {
      ok = build(below(5));
      if (ok && below(2) == 0) ok = call("read") && feedText();
      if (ok && below(4) > 0) ok = call("solve", below(3) == 0 ? below(13) : 12) && look();
      if (ok && below(2) == 0) ok = call("branch", 0) && call("branch", 1) && call("branch", 2) && call("branch", 3);
      int more = 20 + below(150);
      for (int k = 0; k < more && ok && told.size() < 512; k++) ok = anyCall();
    }
  }

  public static void main(String[] args) {
    int runs = args.length > 0 ? Integer.parseInt(args[0]) : 400;
    long first = args.length > 1 ? Long.parseLong(args[1]) : 1;
    for (int r = 0; r < runs && wrong < 3; r++) new RandomRunsTest(first + r).run();
    if (args.length > 2) ANSWERS.forEach((k, v) -> System.out.println(k + " " + v));
    System.out.println(wrong == 0 ? "random runs: all answers are the oracle's" : "random runs: wrong " + wrong);
    if (wrong != 0) System.exit(1);
  }
}
