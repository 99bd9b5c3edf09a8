import java.math.BigInteger;
import java.util.ArrayList;
import java.util.Arrays;
import java.util.Comparator;
import java.util.List;
import java.util.TreeMap;
import java.util.regex.Matcher;
import java.util.regex.Pattern;

/**
 * The document told a second time, by other means than the program's: the table holds true
 * fractions (whole numbers are got by multiplying with the divisor, and must come out whole),
 * texts are read by a pattern, mixes are sorted in lists, tapes are arrays of their own sorts.
 */
final class Oracle {
  static final int NONE = -1, BAD = -2, STATE = -3, FULL = -4;
  static final long NO = Long.MIN_VALUE;
  static final BigInteger TOP = BigInteger.valueOf(1000000000L);

  // ------------------------------------------------------------ fractions

  static final class Frac implements Comparable<Frac> {
    static final Frac ZERO = of(0);
    final BigInteger top, bottom;
    Frac(BigInteger t, BigInteger b) {
      if (b.signum() < 0) { t = t.negate(); b = b.negate(); }
      BigInteger g = t.gcd(b);
      top = t.divide(g);
      bottom = b.divide(g);
    }
    static Frac of(long n) { return new Frac(BigInteger.valueOf(n), BigInteger.ONE); }
    Frac plus(Frac o) { return new Frac(top.multiply(o.bottom).add(o.top.multiply(bottom)), bottom.multiply(o.bottom)); }
    Frac minus(Frac o) { return plus(o.negate()); }
    Frac negate() { return new Frac(top.negate(), bottom); }
    Frac times(Frac o) { return new Frac(top.multiply(o.top), bottom.multiply(o.bottom)); }
    Frac over(Frac o) { return new Frac(top.multiply(o.bottom), bottom.multiply(o.top)); }
    boolean whole() { return bottom.equals(BigInteger.ONE); }
    BigInteger floor() {
      BigInteger[] qr = top.divideAndRemainder(bottom);
      return qr[1].signum() < 0 ? qr[0].subtract(BigInteger.ONE) : qr[0];
    }
    int sign() { return top.signum(); }
    public int compareTo(Frac o) { return top.multiply(o.bottom).compareTo(o.top.multiply(bottom)); }
    long part(int p) { return (p == 0 ? top : bottom).longValueExact(); }
  }

  /** An inequality: points times how many, together, at most limit. */
  static final class Ineq {
    final BigInteger[] points;
    final BigInteger limit;
    Ineq(BigInteger[] points, BigInteger limit) { this.points = points; this.limit = limit; }
  }

  static final class Rule {
    int sort, bound;
    int[] factors = new int[5];
    Rule(int sort, int bound) { this.sort = sort; this.bound = bound; }
    Rule copy() { Rule r = new Rule(sort, bound); r.factors = factors.clone(); return r; }
    int sum(int[] mix) { int s = 0; for (int p = 0; p < mix.length; p++) s += factors[p] * mix[p]; return s; }
    int left(int[] mix) { return sort == 0 ? sum(mix) - bound : bound - sum(mix); }
    Ineq ineq(int n) {
      BigInteger[] pts = new BigInteger[n];
      for (int p = 0; p < n; p++) pts[p] = BigInteger.valueOf(sort == 0 ? -factors[p] : factors[p]);
      return new Ineq(pts, BigInteger.valueOf(sort == 0 ? -bound : bound));
    }
  }

  static final class Problem {
    int n = 2;
    int[] costs = {1, 1, 1, 1, 1};
    List<Rule> rules = new ArrayList<>();
    Problem copy() {
      Problem q = new Problem();
      q.n = n;
      q.costs = costs.clone();
      for (Rule r : rules) q.rules.add(r.copy());
      return q;
    }
    int costOf(int[] mix) { int s = 0; for (int p = 0; p < mix.length; p++) s += costs[p] * mix[p]; return s; }
    boolean obeys(int[] mix) { for (Rule r : rules) if (r.left(mix) < 0) return false; return true; }
  }

  // ------------------------------------------------------------ the table

  static final class Row {
    int owner;
    Frac[] a;
    Frac right;
    Row(int owner, int n) { this.owner = owner; a = new Frac[n]; Arrays.fill(a, Frac.ZERO); right = Frac.ZERO; }
  }

  static final class Stuck extends Exception { }
  static final class NoMix extends Exception { }

  static final class CutRecord {
    Ineq told;
    TreeMap<Integer, Frac> weights = new TreeMap<>();
  }

  static final class Tab {
    final Problem q;
    final int n;
    List<Row> rows = new ArrayList<>();
    int[] colOwners;
    Frac[] rises;
    Frac value = Frac.ZERO;
    BigInteger divisor = BigInteger.ONE;
    int pivots;
    List<CutRecord> cuts = new ArrayList<>();
    int status;

    Tab(Problem q) {
      this.q = q;
      n = q.n;
      colOwners = new int[n];
      rises = new Frac[n];
      for (int c = 0; c < n; c++) { colOwners[c] = c; rises[c] = Frac.of(q.costs[c]); }
      for (int k = 0; k < q.rules.size(); k++) addIneq(10 + k, q.rules.get(k).ineq(n));
    }

    void addIneq(int owner, Ineq e) {
      Row r = new Row(owner, n);
      for (int c = 0; c < n; c++) r.a[c] = new Frac(e.points[c], BigInteger.ONE);
      r.right = new Frac(e.limit, BigInteger.ONE);
      rows.add(r);
    }

    BigInteger whole(Frac f) { return whole(f, divisor); }

    static BigInteger whole(Frac f, BigInteger d) {
      BigInteger[] qr = f.top.multiply(d).divideAndRemainder(f.bottom);
      if (qr[1].signum() != 0) throw new IllegalStateException("the oracle's table has a rest");
      return qr[0];
    }

    static void near(BigInteger v) throws Stuck { if (v.abs().compareTo(TOP) > 0) throw new Stuck(); }

    void pivot(Row by, int col) throws Stuck {
      BigInteger q = whole(by.a[col]).negate();
      Frac e = by.a[col];
      // the new row tells what owned the column
      Row turned = new Row(colOwners[col], n);
      for (int c = 0; c < n; c++) turned.a[c] = c == col ? Frac.of(1).over(e) : by.a[c].over(e);
      turned.right = by.right.over(e);
      List<Row> fresh = new ArrayList<>();
      for (Row r : rows) {
        if (r == by) { fresh.add(turned); continue; }
        Row s = new Row(r.owner, n);
        for (int c = 0; c < n; c++) {
          Frac base = c == col ? Frac.ZERO : r.a[c];
          s.a[c] = base.minus(r.a[col].times(turned.a[c]));
        }
        s.right = r.right.minus(r.a[col].times(turned.right));
        fresh.add(s);
      }
      Frac[] up = new Frac[n];
      for (int c = 0; c < n; c++) {
        Frac base = c == col ? Frac.ZERO : rises[c];
        up[c] = base.minus(rises[col].times(turned.a[c]));
      }
      Frac val = value.plus(rises[col].times(turned.right));
      near(q);
      near(whole(val, q));
      for (Frac f : up) near(whole(f, q));
      for (Row r : fresh) { near(whole(r.right, q)); for (Frac f : r.a) near(whole(f, q)); }
      colOwners[col] = by.owner;
      rows = fresh;
      rises = up;
      value = val;
      divisor = q;
      pivots++;
    }

    void repair() throws Stuck, NoMix {
      while (true) {
        Row worst = null;
        for (Row r : rows) if (r.right.sign() < 0 && (worst == null || r.right.compareTo(worst.right) < 0)) worst = r;
        if (worst == null) return;
        int best = -1;
        for (int c = 0; c < n; c++) {
          if (worst.a[c].sign() >= 0) continue;
          if (best < 0) { best = c; continue; }
          int cmp = rises[c].over(worst.a[c].negate()).compareTo(rises[best].over(worst.a[best].negate()));
          if (cmp < 0 || cmp == 0 && colOwners[c] < colOwners[best]) best = c;
        }
        if (best < 0) throw new NoMix();
        if (pivots == 60) throw new Stuck();
        pivot(worst, best);
      }
    }

    Row parted() {
      for (Row r : rows) if (r.owner < 10 && !r.right.whole()) return r;
      return null;
    }

    Ineq leftOf(int owner) { return owner < 20 ? q.rules.get(owner - 10).ineq(n) : cuts.get(owner - 20).told; }

    void cutBy(Row row) throws Stuck {
      CutRecord cut = new CutRecord();
      BigInteger[] pts = new BigInteger[n];
      Arrays.fill(pts, BigInteger.ZERO);
      pts[row.owner] = BigInteger.ONE;
      BigInteger lim = row.right.floor();
      for (int c = 0; c < n; c++) {
        BigInteger fl = row.a[c].floor();
        if (colOwners[c] < 10) { pts[colOwners[c]] = pts[colOwners[c]].add(fl); continue; }
        // fl times (limit less points) is at the left: its limit goes over to the right
        Ineq left = leftOf(colOwners[c]);
        for (int p = 0; p < n; p++) pts[p] = pts[p].subtract(fl.multiply(left.points[p]));
        lim = lim.subtract(fl.multiply(left.limit));
        cut.weights.put(colOwners[c], row.a[c].minus(new Frac(fl, BigInteger.ONE)));
      }
      near(lim);
      for (BigInteger b : pts) near(b);
      cut.told = new Ineq(pts, lim);
      Row added = new Row(20 + cuts.size(), n);
      for (int c = 0; c < n; c++) added.a[c] = new Frac(row.a[c].floor(), BigInteger.ONE).minus(row.a[c]);
      added.right = new Frac(row.right.floor(), BigInteger.ONE).minus(row.right);
      cuts.add(cut);
      rows.add(added);
    }

    int solve(int k) {
      try {
        repair();
        for (Row r = parted(); r != null; r = parted()) {
          if (cuts.size() == k) return status = 2;
          cutBy(r);
          repair();
        }
        return status = 1;
      } catch (NoMix e) {
        return status = 0;
      } catch (Stuck e) {
        return status = -6;
      }
    }

    Frac amount(int pack) {
      for (Row r : rows) if (r.owner == pack) return r.right;
      return Frac.ZERO;
    }
  }

  static int worth(Problem q) {
    Tab t = new Tab(q);
    int s = t.solve(12);
    return s == 1 ? (int) t.value.part(0) : s == 0 ? -5 : -6;
  }

  // ------------------------------------------------------------ branching

  static final class Node {
    int depth;
    long[] least = new long[5];
    long[] most = {-1, -1, -1, -1, -1};
    Tab tab;
  }

  static final class Branching {
    int nodes, pivots, result;
    Node answer;
    final Problem q;

    Branching(Problem q) {
      this.q = q;
      try {
        answer = go();
        result = answer == null ? -5 : 0;
      } catch (Stuck e) {
        result = -6;
      }
    }

    Node go() throws Stuck {
      List<Node> waiting = new ArrayList<>();
      come(new Node(), waiting);
      while (!waiting.isEmpty()) {
        Node pick = waiting.get(0);
        for (Node w : waiting) if (w.tab.value.compareTo(pick.tab.value) < 0) pick = w;
        waiting.remove(pick);
        int part = -1;
        for (int p = q.n - 1; p >= 0; p--) if (!pick.tab.amount(p).whole()) part = p;
        if (part < 0) return pick;
        long f = pick.tab.amount(part).floor().longValueExact();
        Node low = child(pick);
        low.most[part] = f;
        come(low, waiting);
        Node high = child(pick);
        high.least[part] = f + 1;
        come(high, waiting);
      }
      return null;
    }

    Node child(Node of) {
      Node c = new Node();
      c.depth = of.depth + 1;
      c.least = of.least.clone();
      c.most = of.most.clone();
      return c;
    }

    void come(Node node, List<Node> waiting) throws Stuck {
      if (nodes == 40) throw new Stuck();
      nodes++;
      node.tab = new Tab(q);
      for (int p = 0; p < q.n; p++) {
        BigInteger[] unit = new BigInteger[q.n];
        Arrays.fill(unit, BigInteger.ZERO);
        BigInteger[] minus = unit.clone();
        unit[p] = BigInteger.ONE;
        minus[p] = BigInteger.ONE.negate();
        if (node.least[p] > 0) node.tab.addIneq(40 + p, new Ineq(minus, BigInteger.valueOf(-node.least[p])));
        if (node.most[p] >= 0) node.tab.addIneq(50 + p, new Ineq(unit, BigInteger.valueOf(node.most[p])));
      }
      try {
        node.tab.repair();
        waiting.add(node);
      } catch (NoMix e) {
        // it came, and does not wait
      } finally {
        pivots += node.tab.pivots;
      }
    }
  }

  // ------------------------------------------------------------ the state

  static final class Known {
    Problem q = new Problem();
    int[] hands = new int[8];
    int by = 1, box = 4;
    List<int[]> seen = new ArrayList<>();
    List<int[]> plan = new ArrayList<>();
    TreeMap<Integer, Integer> offers = new TreeMap<>();
    Known copy() {
      Known k = new Known();
      k.q = q.copy();
      k.hands = hands.clone();
      k.by = by;
      k.box = box;
      k.seen = new ArrayList<>(seen);
      k.plan = new ArrayList<>(plan);
      k.offers = new TreeMap<>(offers);
      return k;
    }
  }

  Known s = new Known();
  Known image;
  Tab tab;
  StringBuilder text = new StringBuilder();
  Object[] tapes = new Object[6];

  boolean pack(int p) { return 0 <= p && p < s.q.n; }
  boolean ruleIs(int r) { return 0 <= r && r < s.q.rules.size(); }
  static boolean in(long v, long low, long high) { return low <= v && v <= high; }
  boolean codeIs(int code) { return in(code, 0, (long) Math.pow(10, s.q.n) - 1); }
  int[] mixOf(int code) {
    String t = String.valueOf(code);
    while (t.length() < s.q.n) t = "0" + t;
    int[] m = new int[s.q.n];
    for (int i = 0; i < m.length; i++) m[i] = t.charAt(i) - '0';
    return m;
  }
  static int codeOf(int[] mix) { int c = 0; for (int d : mix) c = c * 10 + d; return c; }

  int size(int n) {
    if (!in(n, 1, 5)) return BAD;
    int was = s.q.n;
    int box = s.box;
    s = new Known();
    s.box = box;
    s.q.n = n;
    tab = null;
    return was;
  }
  int cost(int p, int v) {
    if (!pack(p)) return NONE;
    if (!in(v, 0, 99)) return BAD;
    int was = s.q.costs[p];
    s.q.costs[p] = v;
    s.offers.clear();
    tab = null;
    return was;
  }
  int rule(int sort, int bound) {
    if (!in(sort, 0, 1) || !in(bound, -99, 999)) return BAD;
    if (s.q.rules.size() == 8) return FULL;
    s.q.rules.add(new Rule(sort, bound));
    tab = null;
    return s.q.rules.size() - 1;
  }
  int factor(int r, int p, int v) {
    if (!ruleIs(r) || !pack(p)) return NONE;
    if (!in(v, -9, 9)) return BAD;
    int was = s.q.rules.get(r).factors[p];
    s.q.rules.get(r).factors[p] = v;
    tab = null;
    return was + 100;
  }
  int bound(int r, int v) {
    if (!ruleIs(r)) return NONE;
    if (!in(v, -99, 999)) return BAD;
    int was = s.q.rules.get(r).bound;
    s.q.rules.get(r).bound = v;
    tab = null;
    return was + 1000;
  }
  int less() {
    int m = s.q.rules.size();
    if (m == 0) return STATE;
    s.q.rules.remove(m - 1);
    s.hands[m - 1] = 0;
    tab = null;
    return m - 1;
  }
  int feed(int sign) {
    if (!in(sign, 0, 127)) return BAD;
    if (text.length() == 80) return FULL;
    text.append((char) sign);
    return text.length();
  }

  /** The first place whose byte no text of the pattern begins so with; numbers are looked at apart. */
  int fault(String t, List<Rule> into) {
    String term = "[0-9]?[a-" + (char) ('a' + s.q.n - 1) + "]";
    String clause = "-?" + term + "(?:[+-]" + term + ")*[<>]-?[0-9]{1,3}";
    Pattern all = Pattern.compile(clause + "(?:;" + clause + "){0,3}");
    int place = -1;
    for (int len = 0; len <= t.length() && place < 0; len++) {
      Matcher m = all.matcher(t.substring(0, len));
      boolean ok = m.matches();
      if (!ok && !m.hitEnd()) place = len - 1;
      if (len == t.length() && !ok && place < 0) place = len;
    }
    int numbers = numberFault(t.substring(0, place < 0 ? t.length() : place), into);
    return numbers >= 0 ? numbers : place;
  }
  int numberFault(String good, List<Rule> into) {
    Rule r = new Rule(0, 0);
    into.add(r);
    Matcher m = Pattern.compile("([+-]?)([0-9]?)([a-e])|([<>])(-?)([0-9]*)|;").matcher(good);
    while (m.find()) {
      if (m.group(3) != null) {
        int p = m.group(3).charAt(0) - 'a';
        int v = m.group(2).isEmpty() ? 1 : Integer.parseInt(m.group(2));
        r.factors[p] += m.group(1).equals("-") ? -v : v;
        if (Math.abs(r.factors[p]) > 9) return m.start(3);
      } else if (m.group(4) != null) {
        r.sort = m.group(4).equals(">") ? 0 : 1;
        if (!m.group(6).isEmpty()) r.bound = Integer.parseInt(m.group(5) + m.group(6));
        if (r.bound < -99) return m.end(6) - 1;
      } else {
        r = new Rule(0, 0);
        into.add(r);
      }
    }
    return -1;
  }
  int read() {
    List<Rule> come = new ArrayList<>();
    int fault = fault(text.toString(), come);
    text.setLength(0);
    if (fault >= 0) return -10 - fault;
    if (come.size() + s.q.rules.size() > 8) return FULL;
    s.q.rules.addAll(come);
    tab = null;
    return come.size();
  }
  int ruleOf(int r, int what) {
    if (!ruleIs(r) || !in(what, 0, 1 + s.q.n)) return NONE;
    Rule k = s.q.rules.get(r);
    return 1000 + (what == 0 ? k.sort : what == 1 ? k.bound : k.factors[what - 2]);
  }

  int solve(int k) {
    if (!in(k, 0, 12)) return BAD;
    tab = new Tab(s.q.copy());
    return tab.solve(k);
  }
  long entry(int row, int column) {
    int n = s.q.n;
    if (tab == null || column < 0) return NO;
    if (row == -2) return column < n ? tab.colOwners[column] : NO;
    if (row == -1) {
      if (column < n) return tab.whole(tab.rises[column]).longValueExact();
      return column == n ? tab.whole(tab.value).longValueExact() : column == n + 1 ? tab.divisor.longValueExact() : NO;
    }
    if (!in(row, 0, tab.rows.size() - 1)) return NO;
    Row r = tab.rows.get(row);
    if (column < n) return tab.whole(r.a[column]).longValueExact();
    return column == n ? tab.whole(r.right).longValueExact() : column == n + 1 ? r.owner : NO;
  }
  long amount(int p, int part) {
    if (tab == null || !pack(p) || !in(part, 0, 1)) return NO;
    return tab.amount(p).part(part);
  }
  long value(int part) {
    if (tab == null || !in(part, 0, 1)) return NO;
    return tab.value.part(part);
  }
  long price(int r, int part) {
    if (tab == null || !ruleIs(r) || !in(part, 0, 1)) return NO;
    for (int c = 0; c < s.q.n; c++) if (tab.colOwners[c] == 10 + r) return tab.rises[c].part(part);
    return Frac.ZERO.part(part);
  }
  boolean cutIs(int cut) { return tab != null && in(cut, 0, tab.cuts.size() - 1); }
  long cut(int cut, int p) {
    if (!cutIs(cut) || !in(p, 0, s.q.n)) return NO;
    Ineq e = tab.cuts.get(cut).told;
    return (p == s.q.n ? e.limit : e.points[p]).longValueExact();
  }
  long weight(int cut, int left, int part) {
    if (!cutIs(cut) || !in(part, 0, 1)) return NO;
    if (!(in(left, 10, 17) && ruleIs(left - 10)) && !in(left, 20, 19 + cut)) return NO;
    return tab.cuts.get(cut).weights.getOrDefault(left, Frac.ZERO).part(part);
  }
  int proved(int cut) {
    if (!cutIs(cut)) return NONE;
    CutRecord c = tab.cuts.get(cut);
    for (int p = 0; p <= s.q.n; p++) {
      Frac sum = Frac.ZERO;
      for (int left : c.weights.keySet()) {
        Ineq e = tab.leftOf(left);
        sum = sum.plus(c.weights.get(left).times(new Frac(p == s.q.n ? e.limit : e.points[p], BigInteger.ONE)));
      }
      if (!sum.floor().equals(p == s.q.n ? c.told.limit : c.told.points[p])) return 0;
    }
    return 1;
  }

  int hand(int r, int v) {
    if (!ruleIs(r)) return NONE;
    if (!in(v, 0, 9)) return BAD;
    int was = s.hands[r];
    s.hands[r] = v;
    return was;
  }
  int by(int v) {
    if (!in(v, 1, 10)) return BAD;
    int was = s.by;
    s.by = v;
    return was;
  }
  BigInteger handOf(int p) {
    BigInteger sum = BigInteger.ZERO;
    for (int r = 0; r < s.q.rules.size(); r++) {
      Ineq e = s.q.rules.get(r).ineq(s.q.n);
      sum = sum.add((p == s.q.n ? e.limit : e.points[p]).multiply(BigInteger.valueOf(s.hands[r])));
    }
    return new Frac(sum, BigInteger.valueOf(s.by)).floor();
  }
  Ineq byHand() {
    BigInteger[] pts = new BigInteger[s.q.n];
    for (int p = 0; p < s.q.n; p++) pts[p] = handOf(p);
    return new Ineq(pts, handOf(s.q.n));
  }
  long points(int p) { return in(p, 0, s.q.n) ? handOf(p).longValueExact() : NO; }
  int bites() {
    if (tab == null) return STATE;
    Ineq e = byHand();
    Frac sum = Frac.ZERO;
    for (int p = 0; p < s.q.n; p++) sum = sum.plus(tab.amount(p).times(new Frac(e.points[p], BigInteger.ONE)));
    return sum.compareTo(new Frac(e.limit, BigInteger.ONE)) > 0 ? 1 : 0;
  }

  List<int[]> boxed() {
    List<int[]> all = new ArrayList<>();
    all.add(new int[0]);
    for (int p = 0; p < s.q.n; p++) {
      List<int[]> next = new ArrayList<>();
      for (int[] m : all) for (int d = 0; d <= s.box; d++) {
        int[] longer = Arrays.copyOf(m, m.length + 1);
        longer[p] = d;
        next.add(longer);
      }
      all = next;
    }
    return all;
  }
  int box(int v) {
    if (!in(v, 0, 6)) return BAD;
    int was = s.box;
    s.box = v;
    return was;
  }
  int nth(int k) {
    if (!in(k, 0, 19)) return BAD;
    List<int[]> good = new ArrayList<>();
    for (int[] m : boxed()) if (s.q.obeys(m)) good.add(m);
    good.sort(Comparator.<int[]>comparingInt(m -> s.q.costOf(m)).thenComparingInt(Oracle::codeOf));
    return k < good.size() ? codeOf(good.get(k)) : -5;
  }
  int many(int what) {
    if (!in(what, 0, 1)) return NONE;
    int found = 0;
    for (int[] m : boxed()) {
      int broken = 0;
      for (Rule r : s.q.rules) if (r.left(m) < 0) broken++;
      if (broken == what) found++;
    }
    return found;
  }
  int breaks(int code) {
    if (!codeIs(code)) return BAD;
    for (int r = 0; r < s.q.rules.size(); r++) if (s.q.rules.get(r).left(mixOf(code)) < 0) return r;
    return -5;
  }
  int lost(int cut) {
    if (cut != -1 && !cutIs(cut)) return NONE;
    Ineq e = cut == -1 ? byHand() : tab.cuts.get(cut).told;
    int best = -5;
    for (int[] m : boxed()) {
      if (!s.q.obeys(m)) continue;
      BigInteger sum = BigInteger.ZERO;
      for (int p = 0; p < s.q.n; p++) sum = sum.add(e.points[p].multiply(BigInteger.valueOf(m[p])));
      if (sum.compareTo(e.limit) > 0 && (best == -5 || codeOf(m) < best)) best = codeOf(m);
    }
    return best;
  }

  int branch(int what) {
    if (!in(what, 0, 3 + s.q.n)) return NONE;
    Branching b = new Branching(s.q.copy());
    if (what == 1) return b.nodes;
    if (what == 3) return b.pivots;
    if (b.answer == null) return b.result;
    if (what == 0) return (int) b.answer.tab.value.part(0);
    return what == 2 ? b.answer.depth : (int) b.answer.tab.amount(what - 4).part(0);
  }
  int would(int r, int v) {
    if (!ruleIs(r)) return NONE;
    if (!in(v, -99, 999)) return BAD;
    Problem q = s.q.copy();
    q.rules.get(r).bound = v;
    return worth(q);
  }
  int see(int p, int many) {
    if (p == -1) { s.seen.clear(); return 0; }
    if (!pack(p)) return NONE;
    if (!in(many, 0, 999)) return BAD;
    if (s.seen.size() == 5) return FULL;
    s.seen.add(new int[] {p, many});
    return s.seen.size();
  }
  int fits(int r, int what) {
    if (!ruleIs(r) || !in(what, 0, 1)) return NONE;
    List<Integer> found = new ArrayList<>();
    for (int v = 0; v < 50; v += 5) {
      Problem q = s.q.copy();
      q.rules.get(r).bound = v;
      Tab t = new Tab(q);
      boolean ok = t.solve(12) == 1;
      for (int[] seen : s.seen) ok = ok && t.amount(seen[0]).compareTo(Frac.of(seen[1])) == 0;
      if (ok) found.add(v);
    }
    return what == 0 ? found.size() : found.isEmpty() ? -5 : found.get(0);
  }
  long odds(int r, int v, int m, int c, int part) {
    if (!ruleIs(r) || !in(v, -99, 999) || !in(m, 1, 8) || v + m > 1000 || c < 0 || !in(part, 0, 1)) return NO;
    int hits = 0;
    for (int k = 0; k < m; k++) if (in(would(r, v + k), 0, c)) hits++;
    return Frac.of(hits).over(Frac.of(m)).part(part);
  }
  long mean(int part) {
    if (!in(part, 0, 1)) return NO;
    Frac sum = Frac.ZERO;
    for (int p = 0; p < s.q.n; p++) sum = sum.plus(Frac.of(s.q.costs[p]));
    return sum.over(Frac.of(s.q.n)).part(part);
  }
  int drawn(int seed, int m) {
    if (!in(m, 1, 4)) return BAD;
    Problem q = s.q.copy();
    q.rules.clear();
    int[] z = {seed};
    for (int k = 0; k < m; k++) {
      Rule r = new Rule(0, 0);
      for (int p = 0; p < q.n; p++) r.factors[p] = draw(z, 10);
      r.bound = draw(z, 60);
      q.rules.add(r);
    }
    return worth(q);
  }
  static int draw(int[] z, int k) {
    z[0] = BigInteger.valueOf(z[0]).multiply(BigInteger.valueOf(1103515245)).add(BigInteger.valueOf(12345)).intValue();
    return (int) ((z[0] & 0xFFFFFFFFL) / 512 % k);
  }

  List<Integer> order() {
    List<Integer> codes = new ArrayList<>(s.offers.keySet());
    codes.sort(Comparator.comparingInt(c -> s.q.costOf(mixOf(c))));
    return codes;
  }
  int offer(int code, int v) {
    if (!codeIs(code) || !in(v, 0, 999)) return BAD;
    if (!s.offers.containsKey(code) && s.offers.size() == 20) return FULL;
    Integer was = s.offers.put(code, v);
    return was == null ? -5 : was;
  }
  int offered(int k, int what) {
    if (!in(what, 0, 2)) return NONE;
    if (!in(k, 0, s.offers.size() - 1)) return BAD;
    int code = order().get(k);
    return what == 0 ? code : what == 1 ? s.offers.get(code) : s.q.costOf(mixOf(code));
  }
  int upTo(int c) {
    int last = -5;
    for (int code : order()) if (s.q.costOf(mixOf(code)) <= c) last = code;
    return last;
  }
  int dearest() {
    int best = -5, gain = 0;
    for (int code : order()) {
      int g = s.offers.get(code) - s.q.costOf(mixOf(code));
      if (best == -5 || g > gain) { best = code; gain = g; }
    }
    return best;
  }
  int plan(int what, int k, int v) {
    if (what == -1) { s.plan.clear(); return 0; }
    if (!in(what, 0, 2) || !(what == 1 ? pack(k) : ruleIs(k))) return NONE;
    if (what == 0 && !in(v, -99, 999) || what == 1 && !in(v, 0, 99) || what == 2 && !in(v, -9, 9)) return BAD;
    if (s.plan.size() == 8) return FULL;
    s.plan.add(new int[] {what, k, v});
    return s.plan.size();
  }
  int ends() {
    Problem q = s.q.copy();
    for (int[] row : s.plan) {
      if (row[0] == 1) {
        if (row[1] < q.n) q.costs[row[1]] = row[2];
      } else if (row[1] < q.rules.size()) {
        if (row[0] == 0) q.rules.get(row[1]).bound = row[2];
        else q.rules.get(row[1]).factors[0] = row[2];
      }
    }
    return worth(q);
  }

  int judge(int t, int i) {
    if (!in(t, 0, 5)) return NONE;
    if (tapes[t] != null && !(tapes[t] instanceof int[])) return -12;
    if (tab == null || tab.status != 1) return STATE;
    int[] row = tapes[t] == null ? new int[0] : (int[]) tapes[t];
    for (int p = 0; p < s.q.n; p++) {
      if (i < 0 || (long) i + p >= row.length) return 100 + p;
      if (tab.amount(p).compareTo(Frac.of(row[i + p])) != 0) return p;
    }
    return -5;
  }
  int image() { image = s.copy(); return s.q.rules.size(); }
  int undo() {
    if (image == null) return STATE;
    s = image.copy();
    tab = null;
    return s.q.rules.size();
  }
  int count(int what) {
    int[] all = {s.q.n, s.q.rules.size(), tab == null ? 0 : tab.rows.size(), tab == null ? 0 : tab.cuts.size(),
        tab == null ? 0 : tab.pivots, s.seen.size(), s.plan.size(), s.offers.size(), text.length(), s.box};
    return in(what, 0, 9) ? all[what] : BAD;
  }
  static int lengthOf(Object row) { return java.lang.reflect.Array.getLength(row); }
  int tape(int t, int sort, int n) {
    if (!in(t, 0, 5)) return NONE;
    if (!in(sort, -1, 4) || sort >= 0 && n > 60) return BAD;
    if (sort == -1) { tapes[t] = null; return 1; }
    if (n < 0) return -14;
    Class<?>[] sorts = {byte.class, short.class, int.class, long.class, boolean.class};
    tapes[t] = java.lang.reflect.Array.newInstance(sorts[sort], n);
    return 1;
  }
  int item(int t, int i, long v) {
    if (!in(t, 0, 5)) return NONE;
    Object row = tapes[t];
    if (row == null) return -11;
    if (!in(i, 0, lengthOf(row) - 1)) return -13;
    if (row instanceof byte[]) ((byte[]) row)[i] = (byte) v;
    if (row instanceof short[]) ((short[]) row)[i] = (short) v;
    if (row instanceof int[]) ((int[]) row)[i] = (int) v;
    if (row instanceof long[]) ((long[]) row)[i] = v;
    if (row instanceof boolean[]) ((boolean[]) row)[i] = v != 0;
    return 1;
  }
  long peek(int t, int i) {
    if (!in(t, 0, 5) || tapes[t] == null || !in(i, 0, lengthOf(tapes[t]) - 1)) return NO;
    if (tapes[t] instanceof boolean[]) return ((boolean[]) tapes[t])[i] ? 1 : 0;
    return ((Number) java.lang.reflect.Array.get(tapes[t], i)).longValue();
  }
  int shift(int t, int i, int other, int j, int n) {
    if (!in(t, 0, 5) || !in(other, 0, 5)) return NONE;
    if (tapes[t] == null || tapes[other] == null) return -11;
    if (tapes[t].getClass() != tapes[other].getClass()) return -12;
    if (n < 0 || i < 0 || j < 0 || (long) i + n > lengthOf(tapes[t]) || (long) j + n > lengthOf(tapes[other])) return -13;
    System.arraycopy(tapes[t], i, tapes[other], j, n);
    return n;
  }
}
