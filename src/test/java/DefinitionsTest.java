import java.math.BigInteger;

/**
 * The sentences by which the document tells what its words mean, each held by runs with answers reckoned by hand, or
 * by what must be so of all that the program tells of a problem: of any MIX, what owns a ROW, and what costs, must
 * come out by THE TABLE; each CUT must come from the ROW that THE TABLE had ahead of it.
 */
public final class DefinitionsTest {
  private static final String[] PROBLEMS = {Problems.SMALL, Problems.HALF, Problems.DEEP, Problems.TWELVE, Problems.BIGGER,
      Problems.BASE_TAKEN, Problems.BASE_REFUSED, Problems.RIGHT_TAKEN, Problems.ENTRY_ABOVE, Problems.RISE_ABOVE,
      Problems.SIXTY_WHOLE, Problems.SIXTY_PARTED, Problems.NODES_ANSWER, Problems.NODES_NO_MIX, Problems.EVEN, Problems.MOSTS};

  public static void main(String[] args) throws Exception {
    mixes();
    theTable();
    pivots();
    whatTheTableTells();
    cutsComeOfRows();
    proofs();
    noTable();
    worths();
    branching();
    draws();
    imageAndOffers();
    refusals();
    calls();
    Runs.end("definitions", 2, 4);
  }

  private static void holds(int promise, String sentence, String... runs) throws Exception {
    Runs.holds(promise, sentence, runs);
  }

  private static void quotes(int promise, String sentence) throws Exception {
    Runs.quotes(promise, sentence);
  }

  private static void mixes() throws Exception {
    // 2a - b: of 3a 6, of 2a + b 3, of 3a + b 5, of 3a + 2b 4
    holds(26, "A MIX: of each PACK so many (0 or more). SUM of a RULE: FACTORS times how many, together. LEFT of a RULE: of LEAST SUM less BOUND, of MOST BOUND less SUM. A MIX of whole numbers OBEYS, if no LEFT is below 0.",
        "rule 0 5 = 0 | factor 0 0 2 = 100 | factor 0 1 -1 = 100 | breaks 30 = -5 | breaks 21 = 0 | breaks 31 = -5 | breaks 32 = 0 | rule 1 3 = 1 | factor 1 0 1 = 100 | breaks 30 = -5 | breaks 40 = 1 | "
        + "breaks 0 = 0 | breaks 99 = 1 | bound 1 -1 = 1003 | breaks 30 = 1 | breaks 0 = 0 | bound 0 0 = 1005 | breaks 0 = 1 | factor 1 0 -1 = 101 | breaks 0 = 1 | breaks 10 = -5");
    holds(10, "RULES 0 .. 7, as they come: a SORT (0 LEAST, 1 MOST), a BOUND (-99 .. 999), for each PACK a FACTOR (-9 .. 9; 0 at first).",
        "rule 1 -99 = 0 | rule 0 999 = 1 | factor 1 0 -9 = 100 | factor 1 1 9 = 100 | ruleOf 0 0 = 1001 | ruleOf 0 1 = 901 | ruleOf 0 2 = 1000 | ruleOf 0 3 = 1000 | ruleOf 1 0 = 1000 | ruleOf 1 1 = 1999 | ruleOf 1 2 = 991 | ruleOf 1 3 = 1009 | less = 1 | "
        + "rule 0 0 = 1 | ruleOf 1 2 = 1000 | ruleOf 0 0 = 1001");
    holds(3, "PACKS 0 .. n less 1 (letters a, b, ..), n being 1 .. 5 (2 at first): a COST (0 .. 99; 1 at first).",
        "cost 0 0 = 1 | cost 1 99 = 1 | cost 2 1 = -1 | cost 0 100 = -2 | cost 0 -1 = -2 | size 5 = 2 | cost 4 7 = 1 | cost 5 7 = -1 | text a+2b+3c+4d+5e>9 | read = 1 | ruleOf 0 2 = 1001 | ruleOf 0 3 = 1002 | ruleOf 0 4 = 1003 | ruleOf 0 5 = 1004 | ruleOf 0 6 = 1005 | size 6 = -2 | size 0 = -2");
    holds(9, "CLAUSES, 1 to 4, with ; between: perhaps -, a TERM, any number of + or - with a TERM behind each; then > (LEAST) or < (MOST); perhaps -, a number (1 to 3 digits), the BOUND.",
        "text a>1 | read = 1 | text -2a-b+3a<-9;b>12;a+b>345 | read = 3 | ruleOf 0 0 = 1000 | ruleOf 1 0 = 1001 | ruleOf 1 1 = 991 | ruleOf 1 2 = 1001 | ruleOf 1 3 = 999 | ruleOf 2 1 = 1012 | ruleOf 2 0 = 1000 | ruleOf 3 1 = 1345 | text a>1;b>2;a>3;b>4 | read = 4 | ruleOf 7 1 = 1004");
    holds(9, "The FAULT: the place of the first byte with which none begins so (the end of THE TEXT, if it ends too early); of a TERM by which a FACTOR is not -9 .. 9 any more its letter; of a BOUND below -99 its last digit (of several the first place).",
        "text 2a*b>1 | read = -12 | text 2a+ | read = -13 | text 9a+2a>1 | read = -14 | text a>-100 | read = -15 | text 9a+2a>-100 | read = -14 | text a>-100;9a+2a>1 | read = -15 | text a>-100;? | read = -15 | text ?;a>-100 | read = -10");
  }

  private static void theTable() throws Exception {
    // no RIGHT is below 0: it stays as at first
    holds(12, "At first: COLUMNS of all PACKS, RISES their COSTS, BASE 0, DIVISOR 1; a ROW of each RULE's LEFT: of LEAST ENTRIES are FACTORS with the other sign, RIGHT BOUND with the other sign; of MOST FACTORS and BOUND.",
        "size 3 = 2 | cost 0 4 = 1 | cost 1 0 = 1 | rule 1 9 = 0 | factor 0 0 -2 = 100 | factor 0 2 3 = 100 | rule 0 -6 = 1 | factor 1 1 5 = 100 | factor 1 2 -7 = 100 | solve 12 = 1 | count 2 = 2 | count 4 = 0 | entry 0 0 = -2 | entry 0 1 = 0 | entry 0 2 = 3 | entry 0 3 = 9 | entry 0 4 = 10 | "
        + "entry 1 0 = 0 | entry 1 1 = -5 | entry 1 2 = 7 | entry 1 3 = 6 | entry 1 4 = 11 | entry -1 0 = 4 | entry -1 1 = 0 | entry -1 2 = 1 | entry -1 3 = 0 | entry -1 4 = 1 | entry -2 0 = 0 | entry -2 1 = 1 | entry -2 2 = 2");
    holds(12, "In THE TABLE: ROW row (0 on): ENTRY of COLUMN column; column n: RIGHT, n and 1: its OWNER. Row -1: RISE; column n: BASE, n and 1: DIVISOR. Row -2: OWNER of the COLUMN.",
        "size 1 = 2 | cost 0 6 = 1 | rule 0 5 = 0 | factor 0 0 4 = 100 | solve 0 = 2 | entry 0 0 = -1 | entry 0 1 = 5 | entry 0 2 = 0 | entry -1 0 = 6 | entry -1 1 = 30 | entry -1 2 = 4 | entry -2 0 = 10");
    holds(13, "What owns a COLUMN is 0: so there are RIGHT by DIVISOR of what owns a ROW, and the VALUE is BASE by DIVISOR.",
        "size 1 = 2 | cost 0 6 = 1 | rule 0 5 = 0 | factor 0 0 4 = 100 | solve 0 = 2 | amount 0 0 = 5 | amount 0 1 = 4 | value 0 = 15 | value 1 = 2 | bound 0 0 = 1005 | solve 0 = 1 | amount 0 0 = 0 | value 0 = 0");
    holds(13, "Amount of a PACK by THE TABLE; part 0 above, 1 below the line, in lowest terms.", Problems.SMALL + "solve 0 = 2 | amount 0 0 = 1 | amount 0 1 = 2 | amount 1 0 = 2 | amount 1 1 = 1 | entry -1 3 = 2 | entry 0 2 = 4");
    holds(15, "PRICE of a RULE: the RISE of its LEFT's COLUMN by DIVISOR, in lowest terms (0 by 1, if it owns a ROW).",
        Problems.SMALL + "solve 0 = 2 | entry -2 0 = 11 | entry -1 0 = 1 | price 1 0 = 1 | price 1 1 = 2 | entry -2 1 = 10 | entry -1 1 = 3 | price 0 0 = 3 | price 0 1 = 2 | bound 1 3 = 1002 | solve 0 = 2 | price 1 0 = 0 | price 1 1 = 1 | price 0 0 = 4 | price 0 1 = 3",
        "size 1 = 2 | cost 0 6 = 1 | rule 0 5 = 0 | factor 0 0 4 = 100 | solve 0 = 2 | price 0 0 = 3 | price 0 1 = 2");
  }

  private static void pivots() throws Exception {
    // E is -3, Q 3, D 1: RULE 1's ROW has F 1 there; beside it G 0, H -2: -2; RIGHT 3 * 3 + 1 * -7
    String once = Problems.SMALL + "bound 1 3 = 1002 | solve 0 = 2 | count 4 = 1 | entry 0 0 = 2 | entry 0 1 = -1 | entry 0 2 = 7 | entry 0 3 = 1 | entry 1 0 = -2 | entry 1 1 = 1 | entry 1 2 = 2 | entry 1 3 = 11 | "
        + "entry -1 0 = 1 | entry -1 1 = 4 | entry -1 2 = 28 | entry -1 3 = 3 | entry -2 0 = 0 | entry -2 1 = 10 | ";
    // then, RIGHT being -1, E is -2, Q 2, D 3: b's ROW has F 2; G -1, H 1: 0; RIGHT (2 * 7 + 2 * -1) / 3
    String twice = Problems.SMALL + "solve 0 = 2 | count 4 = 2 | entry 0 0 = 2 | entry 0 1 = 0 | entry 0 2 = 4 | entry 0 3 = 1 | entry 1 0 = -3 | entry 1 1 = -1 | entry 1 2 = 1 | entry 1 3 = 0 | "
        + "entry -1 0 = 1 | entry -1 1 = 3 | entry -1 2 = 19 | entry -1 3 = 2 | entry -2 0 = 11 | entry -2 1 = 10 | ";
    holds(11, "A PIVOT by a ROW and a COLUMN, the ENTRY E of both being below 0 (D is the DIVISOR, Q is -E): of each other ROW, its ENTRY in that COLUMN being F: each ENTRY G, in whose COLUMN that ROW has H, becomes (Q G + F H) / D (F stays), RIGHT (Q RIGHT + F times that ROW's RIGHT) / D;", once, twice);
    holds(11, "RISES: each R becomes (Q R + S H) / D, S being that COLUMN's (S stays); BASE (Q BASE - S times that ROW's RIGHT) / D;", once, twice);
    holds(11, "then that ROW's ENTRIES and RIGHT have the other sign, but E becomes -D; DIVISOR is Q; OWNERS of both are changed over.", once, twice);
    holds(11, "REPAIR: as long as a RIGHT is below 0: the ROW with the least, of like ones the first; of COLUMNS in which its ENTRY is below 0 that in which RISE by -ENTRY is least, of like ones the one with the least OWNER: a PIVOT by both.",
        once, twice,
        // -9 is the least; 3 by 2 is less than 7 by 4; a being 9 by 2 then, the third RULE is broken: -1
        "cost 0 3 = 1 | cost 1 7 = 1 | rule 0 8 = 0 | factor 0 0 9 = 100 | rule 0 9 = 1 | factor 1 0 2 = 100 | factor 1 1 4 = 100 | rule 1 40 = 2 | factor 2 0 9 = 100 | solve 0 = 2 | count 4 = 2 | entry 0 3 = 10 | entry 1 3 = 0 | entry 2 3 = 1 | entry -1 3 = 36 | entry -1 2 = 487 | "
        + "bound 2 41 = 1040 | solve 0 = 2 | count 4 = 1 | entry 0 2 = 65 | entry 2 2 = 1 | entry -1 2 = 27 | entry -1 3 = 2");
    holds(11, "SOLVED with k CUTS (0 .. 12): THE TABLE as at first, REPAIR; then, as long as some PACK that owns a ROW has a RIGHT that is no multiple of DIVISOR (else it is WHOLE): a CUT by the first such ROW; REPAIR; but no more than k CUTS.",
        Problems.SMALL + "solve 0 = 2 | solve 1 = 1 | count 3 = 1 | solve 12 = 1 | count 3 = 1 | solve 0 = 2 | count 3 = 0 | count 4 = 2", "solve 12 = 1 | count 4 = 0 | count 3 = 0");
    holds(11, "SOLVED with k CUTS: 1 it is WHOLE, 2 it isn't, 0 there is NO MIX, -6 STUCK; THE TABLE stays as it is then. BAD.", Problems.HALF + "solve 0 = 2 | amount 0 0 = 1 | amount 0 1 = 2 | solve 12 = 0 | count 3 = 1 | entry -2 0 = 20 | solve 13 = -2 | count 3 = 1", Problems.BIGGER + "solve 0 = -6 | count 4 = 4 | solve 13 = -2 | count 4 = 4");
  }

  // ---- what must be so of any problem

  private static void whatTheTableTells() throws Exception {
    quotes(12, "THE TABLE has COLUMNS and ROWS, each with an OWNER (a number: of a PACK its own, of a RULE's LEFT 10 and the RULE's, of a CUT's LEFT 20 and the CUT's, in branches 40, or 50, and a PACK's), ENTRIES, of each ROW a RIGHT, of each COLUMN a RISE, a BASE, and a DIVISOR above 0; all whole numbers.");
    quotes(12, "Of what owns a ROW there is RIGHT less all ENTRIES times what owns their COLUMNS, by DIVISOR; what costs is BASE and all RISES times these, by DIVISOR.");
    quotes(16, "A CUT IN PACKS: POINTS of each PACK, and a LIMIT, whole numbers: its LEFT is LIMIT less POINTS times how many, together.");
    quotes(11, "(All go without a rest.)");
    for (String problem : PROBLEMS) {
      for (int k = 0; k <= 12; k += 3) {
        WholePacks x = Runs.after(problem);
        x.solve(k);
        ownersAreEachOnce(x, problem);
        int n = x.count(0);
        long[] mix = new long[n];
        for (int pack = -1; pack < n; pack++) {
          if (pack >= 0) mix[pack] = 7;
          tableTellsOf(x, mix, problem + "solve " + k);
        }
      }
    }
  }

  private static void ownersAreEachOnce(WholePacks x, String problem) {
    int n = x.count(0);
    boolean[] seen = new boolean[40];
    for (int c = 0; c < n; c++) meet(seen, x.entry(-2, c), problem);
    for (int r = 0; r < x.count(2); r++) meet(seen, x.entry(r, n + 1), problem);
    for (int owner = 0; owner < 40; owner++) {
      boolean due = owner < n || owner >= 10 && owner < 10 + x.count(1) || owner >= 20 && owner < 20 + x.count(3);
      Runs.must(seen[owner] == due, "OWNER " + owner + ": " + problem);
    }
    Runs.must(x.entry(-1, n + 1) > 0, "DIVISOR: " + problem);
  }

  private static void meet(boolean[] seen, long owner, String problem) {
    Runs.must(owner >= 0 && owner < 40 && !seen[(int) owner], "OWNER " + owner + ": " + problem);
    if (owner >= 0 && owner < 40) seen[(int) owner] = true;
  }

  /** DIVISOR times what owns each ROW, and what costs, by one MIX. */
  private static void tableTellsOf(WholePacks x, long[] mix, String problem) {
    int n = mix.length;
    long divisor = x.entry(-1, n + 1);
    for (int r = 0; r < x.count(2); r++) {
      BigInteger sum = big(x.entry(r, n));
      for (int c = 0; c < n; c++) sum = sum.subtract(big(x.entry(r, c)).multiply(ofOwner(x, x.entry(-2, c), mix)));
      Runs.must(sum.equals(big(divisor).multiply(ofOwner(x, x.entry(r, n + 1), mix))), "ROW " + r + " of " + problem);
    }
    BigInteger sum = big(x.entry(-1, n));
    for (int c = 0; c < n; c++) sum = sum.add(big(x.entry(-1, c)).multiply(ofOwner(x, x.entry(-2, c), mix)));
    Runs.must(sum.equals(big(divisor).multiply(costOf(x, mix))), "RISES of " + problem);
  }

  private static BigInteger big(long v) {
    return BigInteger.valueOf(v);
  }

  /** What an OWNER is by a MIX: so many of a PACK, or a LEFT. */
  private static BigInteger ofOwner(WholePacks x, long owner, long[] mix) {
    if (owner < 10) return big(mix[(int) owner]);
    BigInteger left = formOf(x, owner, mix.length);
    for (int p = 0; p < mix.length; p++) left = left.subtract(formOf(x, owner, p).multiply(big(mix[p])));
    return left;
  }

  /** POINTS, or at place n the LIMIT, of a LEFT's RULE or CUT. */
  private static BigInteger formOf(WholePacks x, long left, int place) {
    if (left >= 20) return big(x.cut((int) left - 20, place));
    int rule = (int) left - 10;
    long told = x.ruleOf(rule, place == x.count(0) ? 1 : 2 + place) - 1000;
    return big(x.ruleOf(rule, 0) == 1000 ? -told : told);
  }

  /** By OFFERS of one PACK each, which leave THE TABLE. */
  private static BigInteger costOf(WholePacks x, long[] mix) {
    int n = mix.length;
    BigInteger sum = BigInteger.ZERO;
    int code = 1;
    for (int p = n - 1; p >= 0; p--, code *= 10) {
      x.offer(code, 0);
      for (int k = 0; k < x.count(7); k++) {
        if (x.offered(k, 0) == code) sum = sum.add(big(x.offered(k, 2)).multiply(big(mix[p])));
      }
    }
    return sum;
  }

  private static void cutsComeOfRows() throws Exception {
    quotes(11, "A CUT: a ROW more, behind all: ENTRIES and RIGHT are those of that ROW modulo DIVISOR (not below 0), with the other sign; its OWNER is its LEFT (CUTS are numbered from 0).");
    quotes(16, "They come of that ROW so: once its PACK, and what owns each COLUMN, ENTRY by DIVISOR (rounded down) times, together, no more than RIGHT by DIVISOR (rounded down), LEFTS being told in PACKS.");
    quotes(17, "WEIGHTS of a CUT: of each LEFT (of a RULE, an earlier CUT) that owned a COLUMN then: ENTRY modulo DIVISOR, by DIVISOR; of others 0.");
    for (String problem : PROBLEMS) {
      for (int k = 0; k < 12; k++) {
        WholePacks ahead = Runs.after(problem);
        if (ahead.solve(k) != 2 || ahead.count(3) != k) continue;
        WholePacks behind = Runs.after(problem);
        behind.solve(k + 1);
        Runs.must(behind.count(3) == k + 1, "CUT " + k + " of " + problem);
        cutComesOfRow(ahead, behind, k, problem);
      }
    }
    // by hand: a's ROW has ENTRY -1, RIGHT 15, DIVISOR 2: a less RULE 0's LEFT is 7 at most, that LEFT being 2a less 15
    holds(16, "LEFTS being told in PACKS.", "size 1 = 2 | rule 0 15 = 0 | factor 0 0 2 = 100 | solve 0 = 2 | entry 0 0 = -1 | entry 0 1 = 15 | entry -1 2 = 2 | solve 1 = 1 | cut 0 0 = -1 | cut 0 1 = -8 | weight 0 10 0 = 1 | weight 0 10 1 = 2");
  }

  private static void cutComesOfRow(WholePacks ahead, WholePacks behind, int cut, String problem) {
    int n = ahead.count(0);
    long divisor = ahead.entry(-1, n + 1);
    int row = 0;
    while (ahead.entry(row, n + 1) >= 10 || Math.floorMod(ahead.entry(row, n), divisor) == 0) row++;
    for (int place = 0; place <= n; place++) {
      BigInteger sum = big(place == n ? Math.floorDiv(ahead.entry(row, n), divisor) : place == ahead.entry(row, n + 1) ? 1 : 0);
      for (int c = 0; c < n; c++) {
        long owner = ahead.entry(-2, c);
        BigInteger times = big(Math.floorDiv(ahead.entry(row, c), divisor));
        if (owner >= 10) sum = sum.subtract(times.multiply(formOf(ahead, owner, place)));
        else if (owner == place) sum = sum.add(times);
      }
      Runs.must(sum.equals(big(behind.cut(cut, place))), "CUT " + cut + " of " + problem);
    }
    for (int left = 10; left < 20 + cut; left++) {
      if (left >= 10 + ahead.count(1) && left < 20) continue;
      long rest = 0;
      for (int c = 0; c < n; c++) if (ahead.entry(-2, c) == left) rest = Math.floorMod(ahead.entry(row, c), divisor);
      BigInteger crossed = big(behind.weight(cut, left, 0)).multiply(big(divisor));
      Runs.must(crossed.equals(big(rest).multiply(big(behind.weight(cut, left, 1)))), "WEIGHT of " + left + " in CUT " + cut + " of " + problem);
    }
  }

  private static void proofs() throws Exception {
    quotes(18, "With them, RULES and CUTS being told as POINTS and a LIMIT (of LEAST: FACTORS, BOUND with the other sign), it is PROVED: all POINTS, and LIMITS, times WEIGHTS, together, rounded down, are those of the CUT.");
    for (String problem : PROBLEMS) {
      WholePacks x = Runs.after(problem);
      x.solve(12);
      for (int cut = 0; cut < x.count(3); cut++) Runs.must(x.proved(cut) == (comesByWeights(x, cut) ? 1 : 0), "CUT " + cut + " of " + problem);
    }
    // POINTS are LEFTS' by WEIGHTS below 1, so they grow by 5 times at most: none comes near to 1000000000
    holds(16, "If one of them would be above 1000000000, or below -1000000000: STUCK, there is no such CUT.",
        Runs.problem(new int[] {34, 7, 35, 5, 5}, new int[][] {{0, 963, -7, 9, -3, 4, -3}, {0, 956, -9, 9, 5, -9, 1}, {0, 123, -7, 3, -7, -7, 5}, {0, 999, 6, 1, 7, 1, 1}, {0, 999, 9, 7, -9, -1, 2}}) + "solve 12 = -6 | count 3 = 12 | cut 11 5 = -1666502");
    quotes(11, "A CUT by which it is STUCK is not made.");
  }

  private static boolean comesByWeights(WholePacks x, int cut) {
    int n = x.count(0);
    for (int place = 0; place <= n; place++) {
      BigInteger top = BigInteger.ZERO, bottom = BigInteger.ONE;
      for (int left = 10; left < 20 + cut; left++) {
        if (left >= 10 + x.count(1) && left < 20) continue;
        BigInteger below = big(x.weight(cut, left, 1));
        top = top.multiply(below).add(big(x.weight(cut, left, 0)).multiply(formOf(x, left, place)).multiply(bottom));
        bottom = bottom.multiply(below);
      }
      BigInteger[] parts = top.divideAndRemainder(bottom);
      BigInteger whole = parts[1].signum() < 0 ? parts[0].subtract(BigInteger.ONE) : parts[0];
      if (!whole.equals(big(x.cut(cut, place)))) return false;
    }
    return true;
  }

  // ---- what goes with THE TABLE, and what is asked

  private static void noTable() throws Exception {
    String sentence = "size(), cost(), rule(), factor(), bound(), less(), read(), if they aren't refused and no FAULT is told (by the same number, too), make that there is no TABLE (and no CUTS).";
    String gone = " | value 0 = NO | cut 0 0 = NO | proved 0 = -1 | lost 0 = -1 | count 2 = 0 | count 3 = 0 | count 4 = 0 | bites = -3 | entry -1 0 = NO | amount 0 0 = NO | price 0 0 = NO | weight 0 10 0 = NO";
    String there = " | value 0 = 10 | cut 0 2 = -3 | proved 0 = 1 | count 2 = 3 | count 3 = 1 | bites = 0";
    String solved = Problems.SMALL + "text b<2;a>9 | solve 12 = 1" + there + " | ";
    for (String call : new String[] {"size 2 = 2", "cost 0 3 = 3", "rule 0 0 = 2", "factor 0 0 2 = 102", "bound 0 7 = 1007", "less = 1", "read = 2"}) holds(11, sentence, solved + call + gone);
    for (String call : new String[] {"size 6 = -2", "cost 2 3 = -1", "cost 0 100 = -2", "rule 2 0 = -2", "factor 2 0 2 = -1", "factor 0 0 10 = -2", "bound 2 0 = -1", "bound 0 1000 = -2", "feed 59 = 8 | read = -18",
        "hand 0 1 = 0 | hand 0 0 = 1", "by 1 = 1", "box 4 = 4", "image = 2", "undo = -3", "see 0 1 = 1", "plan 0 0 1 = 1", "offer 11 1 = -5", "tape 0 2 2 = 1", "feed 97 = 8"}) holds(11, sentence, solved + call + there);
  }

  private static void worths() throws Exception {
    String solved = Problems.SMALL + "solve 0 = 2 | ";
    holds(29, "All that follows is asked, and changes nothing. WORTH of being SOLVED: with 12 CUTS in thought: the VALUE, if it is WHOLE; -5, if there is NO MIX; -6 else.",
        solved + "would 0 8 = 11 | would 1 -1 = -5 | ends = 10 | drawn 1 4 = " + drawnByHand(new int[] {3, 4}, 1, 4) + " | branch 0 = 10 | fits 0 0 = 10 | odds 0 7 2 10 1 = 2 | nth 0 = 21 | value 0 = 19 | value 1 = 2 | count 3 = 0 | count 4 = 2 | ruleOf 0 1 = 1007",
        Problems.DEEP + "would 0 97 = -6 | would 0 150 = -5");
    holds(33, "MEAN of COSTS likewise.", "cost 0 3 = 1 | mean 0 = 2 | mean 1 = 1 | cost 1 4 = 1 | mean 0 = 7 | mean 1 = 2");
    holds(32, "ODDS of a RULE: its BOUND being v, v and 1, .. v and m less 1 (m 1 .. 8; 999 at most), each alike likely: how likely WORTH is c at most (and 0 or more): a fraction in lowest terms.",
        solved + "odds 0 7 2 10 0 = 1 | odds 0 7 2 10 1 = 2 | odds 0 7 2 11 0 = 1 | odds 0 7 2 11 1 = 1 | odds 0 7 2 9 0 = 0 | odds 0 7 2 9 1 = 1");
    holds(32, "ODDS; part 0 above, 1 below the line.", solved + "odds 0 7 2 10 0 = 1 | odds 0 7 2 10 1 = 2");
    quotes(27, "LOST by a CUT: of MIXES of THE BOX that OBEY those that break it: the first by CODES.");
    holds(22, "Whether it BITES: 1, 0.", "size 1 = 2 | rule 0 5 = 0 | factor 0 0 2 = 100 | hand 0 1 = 0 | solve 0 = 2 | bites = 0 | by 2 = 1 | bites = 1");
    holds(25, "How many MIXES of THE BOX: what 0 OBEY, 1 do not OBEY, but all RULES but one.", Problems.SMALL + "box 1 = 4 | many 0 = 0 | many 1 = 4 | bound 1 0 = 1002 | many 0 = 0 | many 1 = 2");
  }

  private static void branching() throws Exception {
    // NODE 0: a 1 by 2, b 2, VALUE 19 by 2. MOST a 0: NODE 1 has NO MIX, b being 2 at most. LEAST a 1: NODE 2, b 5 by 3, 29 by 3.
    // MOST b 1: NODE 3, a 2, VALUE 10. LEAST b 2: NODE 4, a 1, VALUE 11. The least VALUE of 10 and 11 is taken, and is WHOLE
    String tree = Problems.SMALL + "branch 0 = 10 | branch 1 = 5 | branch 2 = 2 | branch 3 = 11 | branch 4 = 2 | branch 5 = 1";
    holds(28, "BRANCHED: NODES, numbered as they come, 40 at most: of each PACK a LEAST and perhaps a MOST (none and 0 at first: NODE 0).", tree, "branch 0 = 0 | branch 1 = 1 | branch 2 = 0 | branch 3 = 0 | branch 4 = 0");
    holds(28, "A NODE is RELAXED: THE TABLE as at first, behind the RULES' ROWS, by PACKS, one of its LEAST, if that is above 0 (like a RULE LEAST of that PACK alone, FACTOR 1; its LEFT is 40 and the PACK), one of its MOST, if it has one (50 and the PACK); REPAIR (60 PIVOTS).", tree,
        Problems.LEASTS + "branch 1 = " + asked(Problems.LEASTS, "branch 1") + " | branch 3 = " + asked(Problems.LEASTS, "branch 3"), Problems.MOSTS + "branch 3 = " + asked(Problems.MOSTS, "branch 3"));
    holds(28, "The NODE of the least VALUE (of like ones the least number) of those that wait is taken: is it WHOLE, that is the answer.", tree);
    holds(28, "Else of the first PACK that isn't whole, f being its amount rounded down: a NODE with MOST f, then one with LEAST f and 1, else alike, a DEPTH more; each is RELAXED as it comes, and waits, if it has a MIX.", tree,
        // 2a 5 at least: a 5 by 2 behind a PIVOT; MOST 2 has NO MIX behind one, LEAST 3 is whole behind two
        "size 1 = 2 | rule 0 5 = 0 | factor 0 0 2 = 100 | branch 0 = 3 | branch 1 = 3 | branch 2 = 1 | branch 3 = 4 | branch 4 = 3");
    holds(28, "BRANCHED: what 0 the VALUE, 1 how many NODES came, 2 DEPTH of the answer, 3 PIVOTS of all NODES, 4 and a PACK its amount (1, 3 also without an answer; else -5: NO MIX, -6: STUCK). NONE: what.",
        tree + " | branch -1 = -1 | branch 6 = -1", Problems.HALF + "branch 0 = -5 | branch 1 = 3 | branch 2 = -5 | branch 3 = 4 | branch 4 = -5 | branch 5 = -1", Problems.NODES_STUCK + "branch 0 = -6 | branch 1 = 40 | branch 2 = -6 | branch 4 = -6");
  }

  private static long asked(String problem, String call) throws Exception {
    return Runs.ask(Runs.after(problem), call);
  }

  private static void draws() throws Exception {
    quotes(34, "DRAWN by a seed, in thought: RULES are m (1 .. 4) others, LEAST: for each of them FACTORS, by PACKS, DRAWS below 10, then BOUND, a DRAW below 60: WORTH.");
    quotes(34, "A DRAW below k: seed becomes seed * 1103515245 + 12345 (an int); (seed >>> 9) % k.");
    for (int n = 1; n <= 5; n++) {
      int[] costs = {7, 3, 9, 5, 8};
      for (int seed = -40; seed <= 40; seed++) {
        int m = 1 + Math.floorMod(seed, 4);
        WholePacks x = new WholePacks();
        x.size(n);
        for (int p = 0; p < n; p++) x.cost(p, costs[p]);
        long due = drawnByHand(java.util.Arrays.copyOf(costs, n), seed * 1000003, m);
        Runs.must(x.drawn(seed * 1000003, m) == due, "drawn " + seed * 1000003 + " " + m + " of " + n + " PACKS: due is " + due);
      }
    }
  }

  /** WORTH of the RULES drawn, by telling them to an object of their own. */
  private static long drawnByHand(int[] costs, int seed, int m) {
    WholePacks x = new WholePacks();
    x.size(costs.length);
    for (int p = 0; p < costs.length; p++) x.cost(p, costs[p]);
    BigInteger z = big(seed);
    for (int k = 0; k < m; k++) {
      x.rule(0, 0);
      for (int p = 0; p <= costs.length; p++) {
        z = big(z.multiply(big(1103515245)).add(big(12345)).intValue());
        long high = z.longValue() < 0 ? z.longValue() + 4294967296L : z.longValue();
        if (p < costs.length) x.factor(k, p, (int) (high / 512 % 10));
        else x.bound(k, (int) (high / 512 % 60));
      }
    }
    int found = x.solve(12);
    return found == 1 ? x.value(0) : found == 0 ? -5 : -6;
  }

  private static void imageAndOffers() throws Exception {
    String all = "size 3 = 2 | cost 0 5 = 1 | rule 0 7 = 0 | factor 0 0 2 = 100 | hand 0 3 = 0 | by 4 = 1 | box 2 = 4 | see 0 4 = 1 | plan 1 0 6 = 1 | offer 100 9 = -5 | image = 1 | ";
    String back = " | undo = 1 | count 0 = 3 | count 1 = 1 | count 5 = 1 | count 6 = 1 | count 7 = 1 | count 9 = 2 | ruleOf 0 1 = 1007 | ruleOf 0 2 = 1002 | points 0 = -2 | points 3 = -6 | offered 0 1 = 9 | offered 0 2 = 5 | ends = 24 | fits 0 0 = 0 | by 4 = 4 | hand 0 3 = 3 | cost 0 5 = 5";
    String[] changes = {"size 2 = 3", "cost 0 6 = 5", "rule 1 8 = 1", "factor 0 0 3 = 102", "bound 0 8 = 1007", "less = 0", "hand 0 4 = 3", "by 5 = 4", "box 3 = 2", "see 1 1 = 2", "see -1 0 = 0", "plan 0 0 1 = 2", "plan -1 0 0 = 0", "offer 1 1 = -5", "offer 100 8 = 9", "text b>1 | read = 1"};
    for (String change : changes) holds(43, "THE IMAGE: PACKS, COSTS, RULES, HANDS, BY, BOX, SEEN, the PLAN, OFFERS.", all + change + back);
    holds(43, "All is as THE IMAGE: how many RULES.", all + String.join(" | ", "cost 0 6 = 5", "rule 1 8 = 1", "hand 1 4 = 0", "by 5 = 4", "box 3 = 2", "see 1 1 = 2", "plan 0 0 1 = 2", "offer 1 1 = -5") + back);
    holds(36, "of one MIX the latest counts (20 MIXES at most); in ORDER.", "offer 20 1 = -5 | offer 1 2 = -5 | offer 10 3 = -5 | offer 20 4 = 1 | offered 0 0 = 1 | offered 1 0 = 10 | offered 2 0 = 20 | offered 2 1 = 4 | offered 3 0 = -2");
    holds(39, "A PLAN told by hand: what goes (0 BOUND of RULE k is v, 1 COST of PACK k is v, 2 FACTOR of the first PACK in RULE k is v; 8 rows at most): ENDS: WORTH then.",
        "rule 0 6 = 0 | factor 0 0 2 = 100 | ends = 3 | plan 0 0 8 = 1 | ends = 4 | plan 1 0 5 = 2 | ends = 20 | plan 2 0 8 = 3 | ends = 5 | ruleOf 0 1 = 1006");
    holds(41, "Amounts of PACKS in a WHOLE TABLE, told by a row of ints, from a place on, are JUDGED:", Problems.SMALL + "solve 1 = 1 | tape 3 2 3 = 1 | item 3 1 2 = 1 | item 3 2 1 = 1 | judge 3 1 = -5 | judge 3 0 = 0 | judge 3 2 = 0");
    holds(45, "TAPES 0 .. 5 hold nothing (at first), or a row of 0 bytes, 1 shorts, 2 ints, 3 longs, 4 booleans (items 0, 1).",
        "peek 0 0 = NO | peek 5 0 = NO | tape 0 0 1 = 1 | item 0 0 300 = 1 | peek 0 0 = 44 | tape 0 1 1 = 1 | item 0 0 70000 = 1 | peek 0 0 = 4464 | tape 0 2 1 = 1 | item 0 0 5000000000 = 1 | peek 0 0 = 705032704 | tape 0 3 1 = 1 | item 0 0 5000000000 = 1 | peek 0 0 = 5000000000 | tape 0 4 1 = 1 | item 0 0 5000000000 = 1 | peek 0 0 = 1");
  }

  private static void refusals() throws Exception {
    holds(48, "The host's refusals: NOTHING (-11): nothing is there; CAST (-12): another sort; PLACE (-13): no such place; SIZE (-14): a size below 0.",
        "item 0 0 1 = -11 | tape 0 2 3 = 1 | shift 0 0 1 0 1 = -11 | tape 1 3 3 = 1 | shift 0 0 1 0 1 = -12 | item 0 3 1 = -13 | shift 0 2 0 0 2 = -13 | tape 0 2 -1 = -14 | solve 0 = 1 | judge 1 0 = -12");
    String full = "rule 0 0 = 0 | rule 0 0 = 1 | rule 0 0 = 2 | rule 0 0 = 3 | rule 0 0 = 4 | rule 0 0 = 5 | rule 0 0 = 6 | rule 0 0 = 7 | see 0 0 = 1 | see 0 0 = 2 | see 0 0 = 3 | see 0 0 = 4 | see 0 0 = 5 | ";
    // two are so, and the first named is told
    holds(4, "the first that a call's words name. What is answered so changes nothing.", full + "rule 2 0 = -2 | rule 0 1000 = -2 | rule 0 0 = -4 | factor 8 0 10 = -1 | factor 0 2 10 = -1 | factor 0 0 10 = -2 | bound 8 1000 = -1 | cost 2 100 = -1 | see 2 1000 = -1 | see 0 1000 = -2 | see 0 0 = -4 | "
        + "hand 8 10 = -1 | would 8 1000 = -1 | offered 0 3 = -1 | plan 3 0 1000 = -1 | plan 0 8 1000 = -1 | plan 0 0 1000 = -2 | tape 6 9 -1 = -1 | tape 0 9 -1 = -2 | tape 0 2 61 = -2 | item 6 0 0 = -1 | item 0 -1 0 = -11 | "
        + "tape 0 2 1 = 1 | tape 1 3 1 = 1 | shift 6 0 2 0 -1 = -1 | shift 0 0 2 0 -1 = -11 | shift 0 0 1 0 -1 = -12 | shift 0 0 0 0 -1 = -13 | judge 6 0 = -1 | judge 1 0 = -12 | judge 0 0 = -3");
  }

  private static void calls() throws Exception {
    holds(21, "A CUT BY HAND: for each RULE a HAND (0 .. 9; 0 at first), BY (1 .. 10; 1 at first): POINTS of each PACK: those of RULES (as told above) times HANDS, together, by BY, rounded down; LIMIT likewise.",
        // 2 of -2a - 3b, -7, and 1 of b, 2: by 3
        Problems.SMALL + "hand 0 2 = 0 | hand 1 1 = 0 | points 0 = -4 | points 1 = -5 | points 2 = -12 | by 3 = 1 | points 0 = -2 | points 1 = -2 | points 2 = -4");
    holds(24, "THE BOX: MIXES of 0 .. BOX of each PACK (BOX 0 .. 6; 4 at first).", "many 0 = 25 | box 6 = 4 | many 0 = 49 | box 0 = 6 | many 0 = 1 | box 7 = -2 | size 5 = 2 | box 6 = 0 | many 0 = 16807");
    holds(31, "SEEN told by hand: a PACK, how many (5 rows at most). FITS of a RULE: how many of BOUNDS 0, 5, 10 .. 45 there are by which, SOLVED with 12 CUTS, it would be WHOLE, and all SEEN so; the least (-5: none).",
        "rule 0 0 = 0 | factor 0 0 3 = 100 | fits 0 0 = 10 | see 0 5 = 1 | fits 0 0 = 1 | fits 0 1 = 15 | see 1 1 = 2 | fits 0 0 = 0 | fits 0 1 = -5 | see 0 0 = 3 | see 0 0 = 4 | see 0 0 = 5 | see 0 0 = -4");
    holds(38, "OFFERS told by hand: a MIX, an ASK (0 .. 999); of one MIX the latest counts (20 MIXES at most); in ORDER.", "offer 20 999 = -5 | dearest = 20 | offer 10 999 = -5 | dearest = 10 | offer 10 998 = 999 | dearest = 10 | offer 10 997 = 998 | dearest = 20");
    holds(2, "n becomes another (or the same): all COSTS are 1, there are no RULES, SEEN, PLAN, OFFERS, HANDS are 0, BY is 1 (BOX stays): what n was. BAD.",
        "cost 1 9 = 1 | rule 0 5 = 0 | hand 0 7 = 0 | by 6 = 1 | box 3 = 4 | see 1 1 = 1 | plan 0 0 1 = 1 | offer 11 1 = -5 | size 2 = 2 | count 1 = 0 | count 5 = 0 | count 6 = 0 | count 7 = 0 | count 9 = 3 | by 1 = 1 | cost 1 1 = 1 | rule 0 5 = 0 | hand 0 0 = 0 | size 3 = 2 | count 0 = 3 | count 1 = 0 | size 3 = 3 | size 0 = -2 | size 6 = -2");
    holds(7, "The last RULE is no more (its HAND is 0): how many there are. STATE: there are none.", "less = -3 | rule 0 4 = 0 | rule 0 5 = 1 | hand 1 3 = 0 | less = 1 | ruleOf 0 1 = 1004 | ruleOf 1 1 = -1 | rule 0 6 = 1 | hand 1 0 = 0 | less = 1 | less = 0 | less = -3");
    holds(9, "RULES come from THE TEXT, which is empty then in any case: how many; -10 less the FAULT; FULL: no FAULT, but no room for all.", "text a>1 | read = 1 | count 8 = 0 | text a | read = -11 | count 8 = 0 | text a>1;a>1;a>1 | read = 3 | text a>1;a>1;a>1;a>1 | read = 4 | text a>1 | read = -4 | count 8 = 0 | read = -10");
    holds(20, "BY becomes v: what it was. BAD.", "by 4 = 1 | by 4 = 4 | by 0 = -2 | by 11 = -2 | by 10 = 4");
    holds(23, "BOX becomes v: what it was. BAD.", "box 6 = 4 | box 6 = 6 | box 7 = -2 | box -1 = -2 | box 0 = 6");
    holds(34, "DRAWN. BAD: m.", "drawn 5 0 = -2 | drawn 5 5 = -2 | cost 0 99 = 1 | drawn 1 4 = 6 | drawn 1 -1 = -2");
    holds(40, "ENDS.", "ends = 0 | rule 0 3 = 0 | ends = -5 | factor 0 0 1 = 100 | ends = 3 | plan 0 0 4 = 1 | ends = 4");
    holds(44, "How many: 0 PACKS, 1 RULES, 2 ROWS, 3 CUTS, 4 PIVOTS (2 .. 4 of THE TABLE; 0 without), 5 SEEN, 6 of the PLAN, 7 OFFERS, 8 bytes of THE TEXT, 9 BOX. BAD.",
        Problems.SMALL + "count 0 = 2 | count 1 = 2 | count 2 = 0 | count 3 = 0 | count 4 = 0 | solve 1 = 1 | count 2 = 3 | count 3 = 1 | count 4 = 3 | see 0 0 = 1 | plan 1 0 0 = 1 | plan 1 0 0 = 2 | offer 1 1 = -5 | offer 2 1 = -5 | offer 3 1 = -5 | feed 1 = 1 | feed 1 = 2 | feed 1 = 3 | feed 1 = 4 | count 5 = 1 | count 6 = 2 | count 7 = 3 | count 8 = 4 | count 9 = 4 | count 10 = -2 | count -1 = -2");
    holds(46, "Item i of a TAPE becomes v (its lowest bits, as many as an item has; booleans: whether v is not 0): 1. NONE; NOTHING; PLACE.", "item 6 0 1 = -1 | item 0 0 1 = -11 | tape 0 0 2 = 1 | item 0 2 1 = -13 | item 0 1 511 = 1 | peek 0 1 = -1 | peek 0 0 = 0 | tape 0 4 1 = 1 | item 0 0 512 = 1 | peek 0 0 = 1");
    holds(47, "Item i of a TAPE. NO: no such TAPE, nothing there, no such place.", "peek 6 0 = NO | peek 0 0 = NO | tape 0 3 2 = 1 | item 0 1 9 = 1 | peek 0 1 = 9 | peek 0 0 = 0 | peek 0 2 = NO | peek 0 -1 = NO");
  }
}
