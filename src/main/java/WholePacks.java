import java.util.Arrays;

/**
 * Whole packs: mixes of packs that obey rules at the least cost, by a table in whole numbers
 * with one divisor, cuts that make the answer whole, and bounds branched on.
 * What it must do stands in ../shared/DOC.md; words in capitals are that document's.
 */
public final class WholePacks {
  public static final int NONE = -1, BAD = -2, STATE = -3, FULL = -4;
  public static final long NO = Long.MIN_VALUE;

  private static final int NOTHING = -11, CAST = -12, PLACE = -13, SIZE = -14;
  private static final int NONE_SUCH = -5, WORTH_NO_MIX = -5, WORTH_OPEN = -6;
  private static final int NO_MIX = 0, WHOLE = 1, PARTED = 2, MENDED = 3, STUCK = -6;

  private static final int PACKS = 5, RULES = 8, CUTS = 12, NODES = 40, MIXES = 20;
  private static final int SEEN_ROWS = 5, PLAN_ROWS = 8, TAPES = 6, ITEMS = 60;
  private static final int SIGNS = 80, CLAUSES = 4, DIGITS = 3;
  private static final int LEAST = 0, MOST = 1;
  private static final int TOP_COST = 99, LOW_BOUND = -99, TOP_BOUND = 999, TOP_FACTOR = 9;
  private static final int TOP_HAND = 9, TOP_BY = 10, TOP_BOX = 6, TOP_MANY = 999, TOP_ASK = 999;
  private static final int RULE_OWNER = 10, CUT_OWNER = 20, LEAST_OWNER = 40, MOST_OWNER = 50;
  private static final int LEFTS = CUT_OWNER - RULE_OWNER + CUTS;
  private static final int ROWS = RULES + CUTS;
  private static final int MOST_PIVOTS = 60;
  private static final long TOP = 1000000000L;
  private static final int BYTES = 0, SHORTS = 1, INTS = 2, LONGS = 3, BOOLEANS = 4, EMPTY = -1;
  private static final int[] TENS = {1, 10, 100, 1000, 10000, 100000};

  private final State now = new State();
  private final State kept = new State();
  private final Packs thought = new Packs();
  private final Solution solved = new Solution();
  private final Solution trial = new Solution();
  private final Tree tree = new Tree();
  private final Walk walk = new Walk();
  private final Shelf cheapest = new Shelf();
  private final Text text = new Text();
  private final Tapes tapes = new Tapes();
  private final long[] asked = new long[PACKS + 1];
  private boolean tabled;
  private boolean imaged;

  /** Two PACKS, no RULES, no TABLE. */
  public WholePacks() {
  }

  // ---- packs, rules

  public int size(int n) {
    if (n < 1 || n > PACKS) return BAD;
    int before = now.packs.number;
    now.startAgain(n);
    tabled = false;
    return before;
  }

  public int cost(int pack, int v) {
    if (!isPack(pack)) return NONE;
    if (v < 0 || v > TOP_COST) return BAD;
    int before = now.packs.costs[pack];
    now.packs.costs[pack] = v;
    now.offers.clear();
    tabled = false;
    return before;
  }

  public int rule(int sort, int bound) {
    if (sort < LEAST || sort > MOST || !isBound(bound)) return BAD;
    if (now.packs.rules >= RULES) return FULL;
    now.packs.addRule(sort, bound);
    tabled = false;
    return now.packs.rules - 1;
  }

  public int factor(int rule, int pack, int v) {
    if (!isRule(rule) || !isPack(pack)) return NONE;
    if (!isFactor(v)) return BAD;
    int before = now.packs.factorOf(rule, pack);
    now.packs.setFactor(rule, pack, v);
    tabled = false;
    return before + 100;
  }

  public int bound(int rule, int v) {
    if (!isRule(rule)) return NONE;
    if (!isBound(v)) return BAD;
    int before = now.packs.bounds[rule];
    now.packs.bounds[rule] = v;
    tabled = false;
    return before + 1000;
  }

  public int less() {
    if (now.packs.rules <= 0) return STATE;
    now.packs.rules--;
    now.hands[now.packs.rules] = 0;
    tabled = false;
    return now.packs.rules;
  }

  public int feed(int sign) {
    if (sign < 0 || sign > 127) return BAD;
    if (text.length >= SIGNS) return FULL;
    text.signs[text.length] = (byte) sign;
    text.length++;
    return text.length;
  }

  public int read() {
    int fault = text.findFault(now.packs.number);
    text.length = 0;
    if (fault >= 0) return -10 - fault;
    if (now.packs.rules + text.clauses > RULES) return FULL;
    text.addRulesTo(now.packs);
    tabled = false;
    return text.clauses;
  }

  public int ruleOf(int rule, int what) {
    if (!isRule(rule) || what < 0 || what > now.packs.number + 1) return NONE;
    if (what == 0) return now.packs.sorts[rule] + 1000;
    if (what == 1) return now.packs.bounds[rule] + 1000;
    return now.packs.factorOf(rule, what - 2) + 1000;
  }

  // ---- the table

  public int solve(int k) {
    if (k < 0 || k > CUTS) return BAD;
    tabled = true;
    return solved.work(now.packs, k);
  }

  public long entry(int row, int column) {
    int n = now.packs.number;
    if (!tabled || row < -2 || row >= solved.table.rows || column < 0 || column > n + 1) return NO;
    if (row == -2) return column < n ? solved.table.columnOwners[column] : NO;
    if (row == -1) return solved.table.costNumber(column);
    return solved.table.rowNumber(row, column);
  }

  public long amount(int pack, int part) {
    if (!tabled || !isPack(pack) || !isPart(part)) return NO;
    return lowest(solved.table.rightOf(pack), solved.table.divisor, part);
  }

  public long value(int part) {
    if (!tabled || !isPart(part)) return NO;
    return lowest(solved.table.base, solved.table.divisor, part);
  }

  public long price(int rule, int part) {
    if (!tabled || !isRule(rule) || !isPart(part)) return NO;
    return lowest(solved.table.riseOf(RULE_OWNER + rule), solved.table.divisor, part);
  }

  public long cut(int cut, int pack) {
    if (!isCut(cut) || pack < 0 || pack > now.packs.number) return NO;
    return solved.cuts.formOf(cut, pack);
  }

  public long weight(int cut, int left, int part) {
    if (!isCut(cut) || !isPart(part)) return NO;
    boolean ofRule = left >= RULE_OWNER && left < RULE_OWNER + now.packs.rules;
    boolean ofEarlierCut = left >= CUT_OWNER && left < CUT_OWNER + cut;
    if (!ofRule && !ofEarlierCut) return NO;
    return lowest(solved.cuts.weightOf(cut, left), solved.cuts.divisors[cut], part);
  }

  public int proved(int cut) {
    if (!isCut(cut)) return NONE;
    return solved.cuts.isProved(cut, now.packs) ? 1 : 0;
  }

  // ---- cuts by hand

  public int hand(int rule, int v) {
    if (!isRule(rule)) return NONE;
    if (v < 0 || v > TOP_HAND) return BAD;
    int before = now.hands[rule];
    now.hands[rule] = v;
    return before;
  }

  public int by(int v) {
    if (v < 1 || v > TOP_BY) return BAD;
    int before = now.by;
    now.by = v;
    return before;
  }

  public long points(int pack) {
    if (pack < 0 || pack > now.packs.number) return NO;
    return now.handForm(pack);
  }

  public int bites() {
    if (!tabled) return STATE;
    int n = now.packs.number;
    long sum = 0;
    for (int pack = 0; pack < n; pack++) sum += now.handForm(pack) * solved.table.rightOf(pack);
    return sum > now.handForm(n) * solved.table.divisor ? 1 : 0;
  }

  // ---- the box

  public int box(int v) {
    if (v < 0 || v > TOP_BOX) return BAD;
    int before = now.box;
    now.box = v;
    return before;
  }

  public int nth(int k) {
    if (k < 0 || k >= MIXES) return BAD;
    cheapest.clear();
    walk.start(now.packs, now.box);
    for (int left = walk.mixes; left > 0; left--) {
      if (walk.obeys()) cheapest.keepIfCheap(walk.code, walk.cost);
      walk.step();
    }
    return k < cheapest.number ? cheapest.codes[k] : NONE_SUCH;
  }

  public int many(int what) {
    if (what < 0 || what > 1) return NONE;
    int found = 0;
    walk.start(now.packs, now.box);
    for (int left = walk.mixes; left > 0; left--) {
      if (walk.broken() == what) found++;
      walk.step();
    }
    return found;
  }

  public int breaks(int code) {
    if (!isCode(code)) return BAD;
    return now.packs.firstBroken(code);
  }

  public int lost(int cut) {
    if (cut != -1 && !isCut(cut)) return NONE;
    for (int place = 0; place <= now.packs.number; place++) {
      asked[place] = cut == -1 ? now.handForm(place) : solved.cuts.formOf(cut, place);
    }
    walk.start(now.packs, now.box);
    for (int left = walk.mixes; left > 0; left--) {
      if (walk.obeys() && walk.isBeyond(asked)) return walk.code;
      walk.step();
    }
    return NONE_SUCH;
  }

  // ---- what would be

  public int branch(int what) {
    if (what < 0 || what > now.packs.number + 3) return NONE;
    int answer = tree.grow(now.packs);
    if (what == 1) return tree.nodes;
    if (what == 3) return tree.pivots;
    if (answer < 0) return answer;
    if (what == 0) return (int) tree.valueOf(answer);
    if (what == 2) return tree.depths[answer];
    return (int) tree.floors[answer * PACKS + what - 4];
  }

  public int would(int rule, int v) {
    if (!isRule(rule)) return NONE;
    if (!isBound(v)) return BAD;
    thought.become(now.packs);
    thought.bounds[rule] = v;
    return trial.worthOf(thought);
  }

  public int see(int pack, int many) {
    if (pack == -1) {
      now.seen = 0;
      return 0;
    }
    if (!isPack(pack)) return NONE;
    if (many < 0 || many > TOP_MANY) return BAD;
    if (now.seen >= SEEN_ROWS) return FULL;
    now.addSeen(pack, many);
    return now.seen;
  }

  public int fits(int rule, int what) {
    if (!isRule(rule) || what < 0 || what > 1) return NONE;
    int found = 0;
    int least = NONE_SUCH;
    thought.become(now.packs);
    for (int v = 0; v <= 45; v += 5) {
      thought.bounds[rule] = v;
      if (!isSeenSo()) continue;
      if (found == 0) least = v;
      found++;
    }
    return what == 0 ? found : least;
  }

  public long odds(int rule, int v, int m, int c, int part) {
    if (!isRule(rule) || !isBound(v) || m < 1 || m > 8 || v + m - 1 > TOP_BOUND) return NO;
    if (c < 0 || !isPart(part)) return NO;
    int found = 0;
    thought.become(now.packs);
    for (int more = 0; more < m; more++) {
      thought.bounds[rule] = v + more;
      int worth = trial.worthOf(thought);
      if (worth >= 0 && worth <= c) found++;
    }
    return lowest(found, m, part);
  }

  public long mean(int part) {
    if (!isPart(part)) return NO;
    int sum = 0;
    for (int pack = 0; pack < now.packs.number; pack++) sum += now.packs.costs[pack];
    return lowest(sum, now.packs.number, part);
  }

  public int drawn(int seed, int m) {
    if (m < 1 || m > 4) return BAD;
    thought.become(now.packs);
    thought.drawRules(seed, m);
    return trial.worthOf(thought);
  }

  // ---- offers, plans

  public int offer(int code, int v) {
    if (!isCode(code) || v < 0 || v > TOP_ASK) return BAD;
    int at = now.offers.placeOf(code);
    if (at >= 0) {
      int before = now.offers.asks[at];
      now.offers.asks[at] = v;
      return before;
    }
    if (now.offers.number >= MIXES) return FULL;
    now.offers.insert(code, now.packs.costOf(code), v);
    return NONE_SUCH;
  }

  public int offered(int k, int what) {
    if (what < 0 || what > 2) return NONE;
    if (k < 0 || k >= now.offers.number) return BAD;
    if (what == 0) return now.offers.codes[k];
    return what == 1 ? now.offers.asks[k] : now.offers.costs[k];
  }

  public int upTo(int c) {
    int found = NONE_SUCH;
    for (int k = 0; k < now.offers.number; k++) {
      if (now.offers.costs[k] <= c) found = now.offers.codes[k];
    }
    return found;
  }

  public int dearest() {
    int best = -1;
    for (int k = 0; k < now.offers.number; k++) {
      if (best < 0 || now.offers.gainOf(k) > now.offers.gainOf(best)) best = k;
    }
    return best < 0 ? NONE_SUCH : now.offers.codes[best];
  }

  public int plan(int what, int k, int v) {
    if (what == -1) {
      now.planned = 0;
      return 0;
    }
    if (what < 0 || what > 2) return NONE;
    if (what == 1 ? !isPack(k) : !isRule(k)) return NONE;
    if (!isPlanned(what, v)) return BAD;
    if (now.planned >= PLAN_ROWS) return FULL;
    now.addPlan(what, k, v);
    return now.planned;
  }

  public int ends() {
    thought.become(now.packs);
    for (int row = 0; row < now.planned; row++) {
      thought.change(now.planWhats[row], now.planPlaces[row], now.planValues[row]);
    }
    return trial.worthOf(thought);
  }

  // ---- judging, the image, tapes

  public int judge(int tape, int i) {
    if (!isTape(tape)) return NONE;
    if (tapes.sorts[tape] != INTS && tapes.sorts[tape] != EMPTY) return CAST;
    if (!tabled || solved.state != WHOLE) return STATE;
    int items = tapes.sorts[tape] == EMPTY || i < 0 || i > tapes.lengths[tape]
        ? 0 : tapes.lengths[tape] - i;
    for (int pack = 0; pack < now.packs.number; pack++) {
      if (pack >= items) return 100 + pack;
      if (tapes.cells[tape][i + pack] != solved.table.floorOf(pack)) return pack;
    }
    return NONE_SUCH;
  }

  public int image() {
    kept.become(now);
    imaged = true;
    return now.packs.rules;
  }

  public int undo() {
    if (!imaged) return STATE;
    now.become(kept);
    tabled = false;
    return now.packs.rules;
  }

  public int count(int what) {
    switch (what) {
      case 0: return now.packs.number;
      case 1: return now.packs.rules;
      case 2: return tabled ? solved.table.rows : 0;
      case 3: return tabled ? solved.cuts.number : 0;
      case 4: return tabled ? solved.table.pivots : 0;
      case 5: return now.seen;
      case 6: return now.planned;
      case 7: return now.offers.number;
      case 8: return text.length;
      case 9: return now.box;
      default: return BAD;
    }
  }

  public int tape(int tape, int sort, int n) {
    if (!isTape(tape)) return NONE;
    if (sort < EMPTY || sort > BOOLEANS) return BAD;
    if (sort != EMPTY && n > ITEMS) return BAD;
    if (sort != EMPTY && n < 0) return SIZE;
    tapes.lay(tape, sort, sort == EMPTY ? 0 : n);
    return 1;
  }

  public int item(int tape, int i, long v) {
    if (!isTape(tape)) return NONE;
    if (tapes.sorts[tape] == EMPTY) return NOTHING;
    if (i < 0 || i >= tapes.lengths[tape]) return PLACE;
    tapes.cells[tape][i] = tapes.trimmed(tapes.sorts[tape], v);
    return 1;
  }

  public long peek(int tape, int i) {
    if (!isTape(tape) || i < 0 || i >= tapes.lengths[tape]) return NO;
    return tapes.cells[tape][i];
  }

  public int shift(int tape, int i, int other, int j, int n) {
    if (!isTape(tape) || !isTape(other)) return NONE;
    if (tapes.sorts[tape] == EMPTY || tapes.sorts[other] == EMPTY) return NOTHING;
    if (tapes.sorts[tape] != tapes.sorts[other]) return CAST;
    if (!tapes.holds(tape, i, n) || !tapes.holds(other, j, n)) return PLACE;
    System.arraycopy(tapes.cells[tape], i, tapes.cells[other], j, n);
    return n;
  }

  // ---- what is and what isn't

  private boolean isPack(int pack) {
    return pack >= 0 && pack < now.packs.number;
  }

  private boolean isRule(int rule) {
    return rule >= 0 && rule < now.packs.rules;
  }

  private boolean isCut(int cut) {
    return tabled && cut >= 0 && cut < solved.cuts.number;
  }

  private boolean isCode(int code) {
    return code >= 0 && code < TENS[now.packs.number];
  }

  private static boolean isBound(int v) {
    return v >= LOW_BOUND && v <= TOP_BOUND;
  }

  private static boolean isFactor(int v) {
    return v >= -TOP_FACTOR && v <= TOP_FACTOR;
  }

  private static boolean isPart(int part) {
    return part == 0 || part == 1;
  }

  private static boolean isTape(int tape) {
    return tape >= 0 && tape < TAPES;
  }

  private static boolean isPlanned(int what, int v) {
    if (what == 0) return isBound(v);
    return what == 1 ? v >= 0 && v <= TOP_COST : isFactor(v);
  }

  private static boolean isNear(long v) {
    return v <= TOP && v >= -TOP;
  }

  /** Whether the thought's answer is WHOLE, with all that is SEEN in it. */
  private boolean isSeenSo() {
    if (trial.work(thought, CUTS) != WHOLE) return false;
    for (int row = 0; row < now.seen; row++) {
      if (trial.table.floorOf(now.seenPacks[row]) != now.seenMany[row]) return false;
    }
    return true;
  }

  /** A part of top by bottom (bottom above 0) in lowest terms. */
  private static long lowest(long top, long bottom, int part) {
    long common = bottom;
    long rest = Math.abs(top);
    for (int turn = 0; turn < 200 && rest != 0; turn++) {
      long next = common % rest;
      common = rest;
      rest = next;
    }
    if (common <= 0) return NO;
    return (part == 0 ? top : bottom) / common;
  }

  /** PACKS, their COSTS, the RULES. */
  private static final class Packs {
    int number = 2;
    int rules;
    final int[] costs = {1, 1, 1, 1, 1};
    final int[] sorts = new int[RULES];
    final int[] bounds = new int[RULES];
    final int[] factors = new int[RULES * PACKS];

    void become(Packs other) {
      number = other.number;
      rules = other.rules;
      System.arraycopy(other.costs, 0, costs, 0, PACKS);
      System.arraycopy(other.sorts, 0, sorts, 0, RULES);
      System.arraycopy(other.bounds, 0, bounds, 0, RULES);
      System.arraycopy(other.factors, 0, factors, 0, RULES * PACKS);
    }

    void startAgain(int n) {
      number = n;
      rules = 0;
      Arrays.fill(costs, 1);
    }

    /** Behind the others; there must be room. */
    void addRule(int sort, int bound) {
      sorts[rules] = sort;
      bounds[rules] = bound;
      for (int pack = 0; pack < PACKS; pack++) setFactor(rules, pack, 0);
      rules++;
    }

    int factorOf(int rule, int pack) {
      return factors[rule * PACKS + pack];
    }

    void setFactor(int rule, int pack, int v) {
      factors[rule * PACKS + pack] = v;
    }

    /** A RULE told as a CUT is: POINTS of each PACK, and at the place behind them the LIMIT. */
    int formOf(int rule, int place) {
      int told = place == number ? bounds[rule] : factorOf(rule, place);
      return sorts[rule] == LEAST ? -told : told;
    }

    int costOf(int code) {
      int sum = 0;
      for (int pack = 0; pack < number; pack++) sum += digitOf(code, pack) * costs[pack];
      return sum;
    }

    int firstBroken(int code) {
      for (int rule = 0; rule < rules; rule++) {
        int left = formOf(rule, number);
        for (int pack = 0; pack < number; pack++) left -= formOf(rule, pack) * digitOf(code, pack);
        if (left < 0) return rule;
      }
      return NONE_SUCH;
    }

    private int digitOf(int code, int pack) {
      int rest = code;
      for (int behind = number - 1; behind > pack; behind--) rest /= 10;
      return rest % 10;
    }

    /** One row of the PLAN; what there is no more is passed over. */
    void change(int what, int k, int v) {
      boolean there = what == 1 ? k < number : k < rules;
      if (!there) return;
      if (what == 0) bounds[k] = v;
      else if (what == 1) costs[k] = v;
      else setFactor(k, 0, v);
    }

    void drawRules(int seed, int m) {
      int drawn = seed;
      rules = 0;
      for (int rule = 0; rule < m; rule++) {
        addRule(LEAST, 0);
        for (int pack = 0; pack < number; pack++) {
          drawn = stirred(drawn);
          setFactor(rule, pack, (drawn >>> 9) % 10);
        }
        drawn = stirred(drawn);
        bounds[rule] = (drawn >>> 9) % 60;
      }
    }

    private static int stirred(int seed) {
      return seed * 1103515245 + 12345;
    }
  }

  /** All that THE IMAGE holds. */
  private static final class State {
    final Packs packs = new Packs();
    final Shelf offers = new Shelf();
    final int[] hands = new int[RULES];
    int by = 1;
    int box = 4;
    int seen;
    final int[] seenPacks = new int[SEEN_ROWS];
    final int[] seenMany = new int[SEEN_ROWS];
    int planned;
    final int[] planWhats = new int[PLAN_ROWS];
    final int[] planPlaces = new int[PLAN_ROWS];
    final int[] planValues = new int[PLAN_ROWS];

    void become(State other) {
      packs.become(other.packs);
      offers.become(other.offers);
      System.arraycopy(other.hands, 0, hands, 0, RULES);
      by = other.by;
      box = other.box;
      seen = other.seen;
      System.arraycopy(other.seenPacks, 0, seenPacks, 0, SEEN_ROWS);
      System.arraycopy(other.seenMany, 0, seenMany, 0, SEEN_ROWS);
      planned = other.planned;
      System.arraycopy(other.planWhats, 0, planWhats, 0, PLAN_ROWS);
      System.arraycopy(other.planPlaces, 0, planPlaces, 0, PLAN_ROWS);
      System.arraycopy(other.planValues, 0, planValues, 0, PLAN_ROWS);
    }

    void startAgain(int n) {
      packs.startAgain(n);
      offers.clear();
      Arrays.fill(hands, 0);
      by = 1;
      seen = 0;
      planned = 0;
    }

    void addSeen(int pack, int many) {
      seenPacks[seen] = pack;
      seenMany[seen] = many;
      seen++;
    }

    void addPlan(int what, int k, int v) {
      planWhats[planned] = what;
      planPlaces[planned] = k;
      planValues[planned] = v;
      planned++;
    }

    /** The CUT BY HAND: POINTS of each PACK, and at the place behind them the LIMIT. */
    long handForm(int place) {
      int sum = 0;
      for (int rule = 0; rule < packs.rules; rule++) sum += hands[rule] * packs.formOf(rule, place);
      return by > 0 ? Math.floorDiv(sum, by) : NO;
    }
  }

  /** MIXES in ORDER, with an ASK each. */
  private static final class Shelf {
    int number;
    final int[] codes = new int[MIXES];
    final int[] costs = new int[MIXES];
    final int[] asks = new int[MIXES];

    void become(Shelf other) {
      number = other.number;
      System.arraycopy(other.codes, 0, codes, 0, MIXES);
      System.arraycopy(other.costs, 0, costs, 0, MIXES);
      System.arraycopy(other.asks, 0, asks, 0, MIXES);
    }

    void clear() {
      number = 0;
    }

    int placeOf(int code) {
      for (int k = 0; k < number; k++) {
        if (codes[k] == code) return k;
      }
      return -1;
    }

    int gainOf(int k) {
      return asks[k] - costs[k];
    }

    /** In its place by ORDER; there must be room. */
    void insert(int code, int cost, int ask) {
      int at = number;
      while (at > 0 && isAhead(code, cost, at - 1)) {
        codes[at] = codes[at - 1];
        costs[at] = costs[at - 1];
        asks[at] = asks[at - 1];
        at--;
      }
      codes[at] = code;
      costs[at] = cost;
      asks[at] = ask;
      number++;
    }

    /** A full shelf loses its last for one that comes ahead of it. */
    void keepIfCheap(int code, int cost) {
      if (number >= MIXES) {
        if (!isAhead(code, cost, number - 1)) return;
        number--;
      }
      insert(code, cost, 0);
    }

    private boolean isAhead(int code, int cost, int k) {
      return cost < costs[k] || cost == costs[k] && code < codes[k];
    }
  }

  /** THE TABLE: ENTRIES, RIGHTS, RISES and BASE, all by one DIVISOR. */
  private static final class Table {
    int rows;
    int columns = 1;
    int pivots;
    long base;
    long divisor = 1;
    final int[] rowOwners = new int[ROWS];
    final int[] columnOwners = new int[PACKS];
    final long[] entries = new long[ROWS * PACKS];
    final long[] rights = new long[ROWS];
    final long[] rises = new long[PACKS];
    private final long[] freshEntries = new long[ROWS * PACKS];
    private final long[] freshRights = new long[ROWS];
    private final long[] freshRises = new long[PACKS];

    void start(Packs packs) {
      rows = 0;
      columns = packs.number;
      pivots = 0;
      base = 0;
      divisor = 1;
      for (int column = 0; column < columns; column++) {
        columnOwners[column] = column;
        rises[column] = packs.costs[column];
      }
      for (int rule = 0; rule < packs.rules; rule++) {
        int row = addRow(RULE_OWNER + rule, packs.formOf(rule, columns));
        for (int column = 0; column < columns; column++) {
          entries[row * PACKS + column] = packs.formOf(rule, column);
        }
      }
    }

    /** A row with entries 0, behind the others; there must be room. */
    private int addRow(int owner, long right) {
      int row = rows;
      rowOwners[row] = owner;
      rights[row] = right;
      for (int column = 0; column < PACKS; column++) entries[row * PACKS + column] = 0;
      rows++;
      return row;
    }

    void addLeast(int pack, long least) {
      int row = addRow(LEAST_OWNER + pack, -least);
      entries[row * PACKS + pack] = -1;
    }

    void addMost(int pack, long most) {
      int row = addRow(MOST_OWNER + pack, most);
      entries[row * PACKS + pack] = 1;
    }

    void addCut(int owner, int from) {
      int row = addRow(owner, -restOf(rights[from]));
      for (int column = 0; column < columns; column++) {
        entries[row * PACKS + column] = -restOf(entries[from * PACKS + column]);
      }
    }

    long restOf(long number) {
      return divisor > 0 ? Math.floorMod(number, divisor) : 0;
    }

    long wholeOf(long number) {
      return divisor > 0 ? Math.floorDiv(number, divisor) : 0;
    }

    int repair() {
      for (int turn = 0; turn <= MOST_PIVOTS; turn++) {
        int row = lowestRow();
        if (row < 0) return MENDED;
        int column = nearestColumn(row);
        if (column < 0) return NO_MIX;
        if (pivots >= MOST_PIVOTS || !pivot(row, column)) return STUCK;
      }
      return STUCK;
    }

    private int lowestRow() {
      int found = -1;
      for (int row = 0; row < rows; row++) {
        if (rights[row] < 0 && (found < 0 || rights[row] < rights[found])) found = row;
      }
      return found;
    }

    private int nearestColumn(int row) {
      int found = -1;
      for (int column = 0; column < columns; column++) {
        if (entries[row * PACKS + column] >= 0) continue;
        if (found < 0 || isNearer(row, column, found)) found = column;
      }
      return found;
    }

    /** RISE by -ENTRY of both, compared without dividing. */
    private boolean isNearer(int row, int column, int found) {
      long here = rises[column] * -entries[row * PACKS + found];
      long there = rises[found] * -entries[row * PACKS + column];
      return here < there || here == there && columnOwners[column] < columnOwners[found];
    }

    /** False, and nothing is changed, if some number would be too far off. */
    private boolean pivot(int row, int column) {
      for (int other = 0; other < rows; other++) {
        if (!freshenRow(other, row, column)) return false;
      }
      for (int other = 0; other < columns; other++) {
        freshRises[other] = other == column ? rises[column]
            : mixed(rises[other], rises[column], entries[row * PACKS + other], row, column);
        if (!isNear(freshRises[other])) return false;
      }
      long freshBase = mixed(base, -rises[column], rights[row], row, column);
      if (!isNear(freshBase)) return false;
      base = freshBase;
      divisor = -entries[row * PACKS + column];
      System.arraycopy(freshEntries, 0, entries, 0, rows * PACKS);
      System.arraycopy(freshRights, 0, rights, 0, rows);
      System.arraycopy(freshRises, 0, rises, 0, columns);
      int owner = rowOwners[row];
      rowOwners[row] = columnOwners[column];
      columnOwners[column] = owner;
      pivots++;
      return true;
    }

    private boolean freshenRow(int other, int row, int column) {
      long factor = entries[other * PACKS + column];
      for (int at = 0; at < columns; at++) {
        long told = entries[other * PACKS + at];
        long fresh;
        if (other == row) fresh = at == column ? -divisor : -told;
        else if (at == column) fresh = told;
        else fresh = mixed(told, factor, entries[row * PACKS + at], row, column);
        if (!isNear(fresh)) return false;
        freshEntries[other * PACKS + at] = fresh;
      }
      freshRights[other] = other == row ? -rights[row]
          : mixed(rights[other], factor, rights[row], row, column);
      return isNear(freshRights[other]);
    }

    /** (Q told + factor beside) / D: exact, and no product leaves a long, all being near. */
    private long mixed(long told, long factor, long beside, int row, int column) {
      long sum = -entries[row * PACKS + column] * told + factor * beside;
      return divisor > 0 ? sum / divisor : 0;
    }

    int rowOf(int owner) {
      for (int row = 0; row < rows; row++) {
        if (rowOwners[row] == owner) return row;
      }
      return -1;
    }

    /** RIGHT of the ROW that it owns; 0, if it owns a COLUMN. */
    long rightOf(int owner) {
      int row = rowOf(owner);
      return row < 0 ? 0 : rights[row];
    }

    long floorOf(int pack) {
      return wholeOf(rightOf(pack));
    }

    /** RISE of the COLUMN that it owns; 0, if it owns a ROW. */
    long riseOf(int owner) {
      for (int column = 0; column < columns; column++) {
        if (columnOwners[column] == owner) return rises[column];
      }
      return 0;
    }

    /** The first ROW of a PACK whose amount isn't whole; -1: none. */
    int partedRow() {
      for (int row = 0; row < rows; row++) {
        if (rowOwners[row] < RULE_OWNER && restOf(rights[row]) != 0) return row;
      }
      return -1;
    }

    /** The first PACK whose amount isn't whole; -1: none. */
    int partedPack() {
      for (int pack = 0; pack < columns; pack++) {
        if (restOf(rightOf(pack)) != 0) return pack;
      }
      return -1;
    }

    long rowNumber(int row, int column) {
      if (column == columns) return rights[row];
      return column > columns ? rowOwners[row] : entries[row * PACKS + column];
    }

    long costNumber(int column) {
      if (column == columns) return base;
      return column > columns ? divisor : rises[column];
    }
  }

  /** CUTS told in PACKS, with their WEIGHTS. */
  private static final class Cuts {
    int number;
    final long[] divisors = new long[CUTS];
    private final long[] forms = new long[CUTS * (PACKS + 1)];
    private final long[] weights = new long[CUTS * LEFTS];

    void clear() {
      number = 0;
    }

    /** POINTS of each PACK, and at the place behind them the LIMIT. */
    long formOf(int cut, int place) {
      return forms[cut * (PACKS + 1) + place];
    }

    long weightOf(int cut, int left) {
      return weights[cut * LEFTS + left - RULE_OWNER];
    }

    /** False, and no CUT comes, if it can't be told in PACKS. */
    boolean make(Table table, int row, Packs packs) {
      for (int place = 0; place <= packs.number; place++) {
        long told = tellIn(table, row, packs, place);
        if (!isNear(told)) return false;
        forms[number * (PACKS + 1) + place] = told;
      }
      for (int left = 0; left < LEFTS; left++) weights[number * LEFTS + left] = 0;
      for (int column = 0; column < table.columns; column++) {
        int left = table.columnOwners[column] - RULE_OWNER;
        if (left < 0 || left >= LEFTS) continue;
        weights[number * LEFTS + left] = table.restOf(table.entries[row * PACKS + column]);
      }
      divisors[number] = table.divisor;
      number++;
      return true;
    }

    /** One place of the ROW's CUT; no sum of five products of near numbers leaves a long. */
    private long tellIn(Table table, int row, Packs packs, int place) {
      long sum = table.rowOwners[row] == place ? 1 : 0;
      if (place == packs.number) sum = table.wholeOf(table.rights[row]);
      for (int column = 0; column < table.columns; column++) {
        int owner = table.columnOwners[column];
        long times = table.wholeOf(table.entries[row * PACKS + column]);
        if (owner == place) sum += times;
        else if (owner >= CUT_OWNER) sum -= times * formOf(owner - CUT_OWNER, place);
        else if (owner >= RULE_OWNER) sum -= times * packs.formOf(owner - RULE_OWNER, place);
      }
      return sum;
    }

    boolean isProved(int cut, Packs packs) {
      if (divisors[cut] <= 0) return false;
      for (int place = 0; place <= packs.number; place++) {
        long sum = 0;
        for (int rule = 0; rule < packs.rules; rule++) {
          sum += weightOf(cut, RULE_OWNER + rule) * packs.formOf(rule, place);
        }
        for (int earlier = 0; earlier < cut; earlier++) {
          sum += weightOf(cut, CUT_OWNER + earlier) * formOf(earlier, place);
        }
        if (Math.floorDiv(sum, divisors[cut]) != formOf(cut, place)) return false;
      }
      return true;
    }
  }

  /** A TABLE SOLVED with CUTS. */
  private static final class Solution {
    final Table table = new Table();
    final Cuts cuts = new Cuts();
    int state;

    int work(Packs packs, int most) {
      table.start(packs);
      cuts.clear();
      state = table.repair();
      for (int turn = 0; turn < most && state == MENDED; turn++) {
        int row = table.partedRow();
        if (row < 0) break;
        if (cuts.make(table, row, packs)) {
          table.addCut(CUT_OWNER + cuts.number - 1, row);
          state = table.repair();
        } else {
          state = STUCK;
        }
      }
      if (state == MENDED) state = table.partedRow() < 0 ? WHOLE : PARTED;
      return state;
    }

    /** WORTH of being SOLVED. */
    int worthOf(Packs packs) {
      int found = work(packs, CUTS);
      if (found == WHOLE) return (int) table.wholeOf(table.base);
      return found == NO_MIX ? WORTH_NO_MIX : WORTH_OPEN;
    }
  }

  /** NODES, each a TABLE RELAXED under bounds of its own. */
  private static final class Tree {
    int nodes;
    int pivots;
    final int[] depths = new int[NODES];
    final long[] floors = new long[NODES * PACKS];
    private final Table table = new Table();
    private final long[] leasts = new long[NODES * PACKS];
    private final long[] mosts = new long[NODES * PACKS];
    private final long[] bases = new long[NODES];
    private final long[] divisors = new long[NODES];
    private final int[] parted = new int[NODES];
    private final boolean[] waits = new boolean[NODES];

    /** The NODE that is the answer; -5: NO MIX, -6: STUCK. */
    int grow(Packs packs) {
      nodes = 0;
      pivots = 0;
      depths[0] = 0;
      for (int pack = 0; pack < PACKS; pack++) {
        leasts[pack] = 0;
        mosts[pack] = -1;
      }
      if (!relax(packs)) return WORTH_OPEN;
      for (int turn = 0; turn <= NODES; turn++) {
        int node = mostHopeful();
        if (node < 0) return WORTH_NO_MIX;
        if (parted[node] < 0) return node;
        waits[node] = false;
        if (!split(packs, node)) return WORTH_OPEN;
      }
      return WORTH_OPEN;
    }

    private boolean split(Packs packs, int node) {
      int pack = parted[node];
      long whole = floors[node * PACKS + pack];
      if (nodes >= NODES) return false;
      inherit(node);
      mosts[nodes * PACKS + pack] = whole;
      if (!relax(packs)) return false;
      if (nodes >= NODES) return false;
      inherit(node);
      leasts[nodes * PACKS + pack] = whole + 1;
      return relax(packs);
    }

    private void inherit(int node) {
      depths[nodes] = depths[node] + 1;
      System.arraycopy(leasts, node * PACKS, leasts, nodes * PACKS, PACKS);
      System.arraycopy(mosts, node * PACKS, mosts, nodes * PACKS, PACKS);
    }

    /** The next NODE comes, its bounds being set; false: it is STUCK. */
    private boolean relax(Packs packs) {
      int node = nodes;
      nodes++;
      table.start(packs);
      for (int pack = 0; pack < packs.number; pack++) {
        if (leasts[node * PACKS + pack] > 0) table.addLeast(pack, leasts[node * PACKS + pack]);
        if (mosts[node * PACKS + pack] >= 0) table.addMost(pack, mosts[node * PACKS + pack]);
      }
      int found = table.repair();
      pivots += table.pivots;
      waits[node] = found == MENDED;
      bases[node] = table.base;
      divisors[node] = table.divisor;
      parted[node] = table.partedPack();
      for (int pack = 0; pack < packs.number; pack++) {
        floors[node * PACKS + pack] = table.floorOf(pack);
      }
      return found != STUCK;
    }

    private int mostHopeful() {
      int found = -1;
      for (int node = 0; node < nodes; node++) {
        if (!waits[node]) continue;
        if (found < 0 || bases[node] * divisors[found] < bases[found] * divisors[node]) found = node;
      }
      return found;
    }

    /** VALUE of a WHOLE NODE. */
    long valueOf(int node) {
      return divisors[node] > 0 ? bases[node] / divisors[node] : 0;
    }
  }

  /** Goes through THE BOX by CODES, keeping what each RULE leaves. */
  private static final class Walk {
    int mixes;
    int code;
    int cost;
    private int box;
    private final Packs packs = new Packs();
    private final int[] digits = new int[PACKS];
    private final int[] lefts = new int[RULES];

    void start(Packs told, int side) {
      packs.become(told);
      box = side;
      mixes = 1;
      code = 0;
      cost = 0;
      for (int pack = 0; pack < packs.number; pack++) {
        digits[pack] = 0;
        mixes *= box + 1;
      }
      for (int rule = 0; rule < packs.rules; rule++) lefts[rule] = packs.formOf(rule, packs.number);
    }

    /** To the next MIX; behind the last comes the first. */
    void step() {
      for (int pack = packs.number - 1; pack >= 0; pack--) {
        if (digits[pack] < box) {
          move(pack, 1);
          return;
        }
        move(pack, -digits[pack]);
      }
    }

    private void move(int pack, int more) {
      digits[pack] += more;
      code += more * TENS[packs.number - 1 - pack];
      cost += more * packs.costs[pack];
      for (int rule = 0; rule < packs.rules; rule++) lefts[rule] -= more * packs.formOf(rule, pack);
    }

    boolean obeys() {
      for (int rule = 0; rule < packs.rules; rule++) {
        if (lefts[rule] < 0) return false;
      }
      return true;
    }

    int broken() {
      int found = 0;
      for (int rule = 0; rule < packs.rules; rule++) {
        if (lefts[rule] < 0) found++;
      }
      return found;
    }

    /** Whether the MIX breaks a CUT told as POINTS and, behind them, a LIMIT. */
    boolean isBeyond(long[] form) {
      long sum = 0;
      for (int pack = 0; pack < packs.number; pack++) sum += form[pack] * digits[pack];
      return sum > form[packs.number];
    }
  }

  /** THE TEXT, and the CLAUSES read from it. */
  private static final class Text {
    int length;
    int clauses;
    final byte[] signs = new byte[SIGNS];
    private int place;
    private int letters;
    private final int[] sorts = new int[CLAUSES];
    private final int[] bounds = new int[CLAUSES];
    private final int[] factors = new int[CLAUSES * PACKS];

    /** The place of the FAULT; -1: there is none, and the CLAUSES are read. */
    int findFault(int packs) {
      letters = packs;
      place = 0;
      clauses = 0;
      for (int clause = 0; clause < CLAUSES; clause++) {
        if (!readClause()) return place;
        clauses++;
        if (place >= length) return -1;
        if (clauses == CLAUSES || !skip(';')) return place;
      }
      return place;
    }

    void addRulesTo(Packs packs) {
      for (int clause = 0; clause < clauses; clause++) {
        packs.addRule(sorts[clause], bounds[clause]);
        for (int pack = 0; pack < packs.number; pack++) {
          packs.setFactor(packs.rules - 1, pack, factors[clause * PACKS + pack]);
        }
      }
    }

    private int here() {
      return place < length ? signs[place] : -1;
    }

    private boolean skip(char sign) {
      if (here() != sign) return false;
      place++;
      return true;
    }

    private boolean atDigit() {
      return here() >= '0' && here() <= '9';
    }

    /** What reads a part answers false with the place at the FAULT. */
    private boolean readClause() {
      for (int pack = 0; pack < PACKS; pack++) factors[clauses * PACKS + pack] = 0;
      if (!readTerm(skip('-'))) return false;
      for (int turn = 0; turn < SIGNS && (here() == '+' || here() == '-'); turn++) {
        boolean minus = here() == '-';
        place++;
        if (!readTerm(minus)) return false;
      }
      if (here() != '>' && here() != '<') return false;
      sorts[clauses] = here() == '>' ? LEAST : MOST;
      place++;
      return readBound(skip('-'));
    }

    private boolean readTerm(boolean minus) {
      int times = 1;
      if (atDigit()) {
        times = here() - '0';
        place++;
      }
      int pack = here() - 'a';
      if (pack < 0 || pack >= letters) return false;
      int sum = factors[clauses * PACKS + pack] + (minus ? -times : times);
      if (!isFactor(sum)) return false;
      factors[clauses * PACKS + pack] = sum;
      place++;
      return true;
    }

    private boolean readBound(boolean minus) {
      int number = 0;
      int digits = 0;
      while (digits < DIGITS && atDigit()) {
        number = number * 10 + here() - '0';
        if (minus && -number < LOW_BOUND) return false;
        place++;
        digits++;
      }
      bounds[clauses] = minus ? -number : number;
      return digits > 0;
    }
  }

  /** Rows of numbers; what a row holds is trimmed to its sort as it comes. */
  private static final class Tapes {
    final int[] sorts = {EMPTY, EMPTY, EMPTY, EMPTY, EMPTY, EMPTY};
    final int[] lengths = new int[TAPES];
    final long[][] cells = new long[TAPES][ITEMS];

    void lay(int tape, int sort, int n) {
      sorts[tape] = sort;
      lengths[tape] = n;
      Arrays.fill(cells[tape], 0);
    }

    long trimmed(int sort, long v) {
      switch (sort) {
        case BYTES: return (byte) v;
        case SHORTS: return (short) v;
        case INTS: return (int) v;
        case BOOLEANS: return v != 0 ? 1 : 0;
        case LONGS:
        default: return v;
      }
    }

    boolean holds(int tape, int from, int n) {
      return n >= 0 && from >= 0 && n <= lengths[tape] && from <= lengths[tape] - n;
    }
  }
}
