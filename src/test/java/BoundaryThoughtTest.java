/** Sentences that name a boundary case, each with a test of its own: what would be (promises 28 to 34). */
public final class BoundaryThoughtTest {
  private static final String EIGHT = "rule 0 0 = 0 | rule 1 0 = 1 | rule 0 0 = 2 | rule 1 0 = 3 | rule 0 0 = 4 | rule 1 0 = 5 | rule 0 0 = 6 | rule 1 0 = 7 | ";
  /** a is a half of the BOUND, at least. */
  private static final String DOUBLE = "size 1 = 2 | rule 0 1 = 0 | factor 0 0 2 = 100 | ";

  public static void main(String[] args) throws Exception {
    asked();
    nodes();
    nodesTaken();
    stuck();
    worth();
    seen();
    fits();
    odds();
    means();
    draws();
    Runs.end("boundaries of what would be", 28, 34);
  }

  private static void holds(int promise, String sentence, String... runs) throws Exception {
    Runs.holds(promise, sentence, runs);
  }

  private static void asked() throws Exception {
    for (int n = 1; n <= 5; n++) {
      holds(28, "4 and a PACK its amount (1, 3 also without an answer; else -5: NO MIX, -6: STUCK). NONE: what.",
          "size " + n + " = 2 | branch -1 = -1 | branch LOW = -1 | branch HIGH = -1 | branch 0 = 0 | branch 1 = 1 | branch 2 = 0 | branch 3 = 0 | branch 4 = 0 | branch " + (n + 3) + " = 0 | branch " + (n + 4) + " = -1 | "
          + "rule 0 5 = 0 | branch 0 = -5 | branch 1 = 1 | branch 2 = -5 | branch 3 = 0 | branch " + (n + 3) + " = -5 | branch " + (n + 4) + " = -1 | factor 0 " + (n - 1) + " 1 = 100 | branch " + (n + 3) + " = 5");
    }
    holds(28, "(1, 3 also without an answer; else -5: NO MIX, -6: STUCK)",
        Problems.NODES_STUCK + "branch 0 = -6 | branch 1 = 40 | branch 2 = -6 | branch 3 = 88 | branch 4 = -6 | branch 6 = -6 | branch 7 = -1 | branch -1 = -1",
        Problems.NODES_NO_MIX + "branch 0 = -5 | branch 1 = 39 | branch 2 = -5 | branch 3 = 166 | branch 6 = -5 | branch 7 = -1");
  }

  private static void nodes() throws Exception {
    holds(28, "(none and 0 at first: NODE 0)", "branch 1 = 1 | branch 3 = 0 | rule 0 1 = 0 | factor 0 0 1 = 100 | branch 1 = 1 | branch 2 = 0 | branch 3 = 1 | branch 4 = 1");
    // NODE 1: MOST 0, which has a ROW too, and there is NO MIX; NODE 2: LEAST 1
    holds(28, "one of its LEAST, if that is above 0", DOUBLE + "branch 0 = 1 | branch 1 = 3 | branch 2 = 1 | branch 3 = 4 | branch 4 = 1",
        // a LEAST of 0 has none: a second ROW of a alone would make another order
        Runs.problem(new int[] {0, 0, 1}, new int[][] {{1, 1, 3, 0, 0}, {1, -2, 1, 2, -3}, {1, 2, 2, 3, 1}}) + "branch 0 = 1 | branch 1 = 7 | branch 2 = 3 | branch 3 = 24 | branch 6 = 1");
    holds(28, "one of its MOST, if it has one", Problems.HALF + "branch 0 = -5 | branch 1 = 3 | branch 3 = 4", DOUBLE + "cost 0 0 = 1 | branch 1 = 3 | branch 4 = 1",
        // by PACKS, not all LEASTS ahead of all MOSTS
        Runs.problem(new int[] {0, 0, 0}, new int[][] {{1, 19, 2, 0, 2}, {0, 15, 1, 1, 1}}) + "branch 3 = 14", Runs.problem(new int[] {3, 1, 2}, new int[][] {{0, 6, 6, 2, 5}}) + "branch 3 = 21 | branch 1 = 9");
    holds(28, "A NODE without a MIX comes, and its PIVOTS count, but it does not wait.", DOUBLE + "branch 1 = 3 | branch 3 = 4", "rule 0 1 = 0 | branch 1 = 1 | branch 3 = 0 | branch 0 = -5",
        Problems.SMALL + "bound 1 -1 = 1002 | branch 0 = -5 | branch 1 = 1 | branch 3 = 2");
    holds(28, "None waits: NO MIX.", Problems.HALF + "branch 0 = -5 | branch 2 = -5 | branch 4 = -5 | branch 1 = 3", Problems.NODES_NO_MIX + "branch 0 = -5 | branch 1 = 39");
  }

  private static void nodesTaken() throws Exception {
    holds(28, "The NODE of the least VALUE (of like ones the least number) of those that wait is taken", "cost 0 0 = 1 | cost 1 0 = 1 | rule 0 17 = 0 | factor 0 0 2 = 100 | factor 0 1 1 = 100 | branch 1 = 3 | branch 4 = 8 | branch 5 = 1",
        // of NODES 1 and 2 the second is the cheaper: 5a with 1 of b, or 3 of a
        "cost 0 4 = 1 | cost 1 9 = 1 | rule 0 5 = 0 | factor 0 0 2 = 100 | factor 0 1 1 = 100 | branch 0 = 12 | branch 1 = 3 | branch 4 = 3 | branch 5 = 0 | cost 1 3 = 9 | branch 0 = 11 | branch 4 = 2 | branch 5 = 1");
    // of RISES alike the least OWNER
    holds(28, "in branches 40, or 50, and a PACK's", Problems.LEASTS + "branch 0 = 7 | branch 1 = 29 | branch 3 = 142", Problems.MOSTS + "branch 0 = -6 | branch 1 = 40 | branch 3 = 148", Problems.EVEN + "branch 0 = 11 | branch 1 = 21 | branch 3 = 59");
    holds(28, "is it WHOLE, that is the answer", "rule 0 4 = 0 | factor 0 0 2 = 100 | branch 0 = 2 | branch 1 = 1 | branch 2 = 0 | bound 0 5 = 1004 | branch 0 = 3 | branch 1 = 3 | branch 2 = 1");
    holds(28, "Else of the first PACK that isn't whole, f being its amount rounded down", "cost 0 5 = 1 | cost 1 0 = 1 | rule 0 3 = 0 | factor 0 1 2 = 100 | rule 0 1 = 1 | factor 1 0 2 = 100 | branch 0 = 5 | branch 1 = 5 | branch 2 = 2 | branch 3 = 14",
        // 5 by 2: 2 and 3; 1 by 2: 0 and 1
        DOUBLE + "rule 1 2 = 1 | factor 1 0 1 = 100 | bound 0 5 = 1001 | branch 0 = -5 | bound 1 3 = 1002 | branch 0 = 3 | bound 0 1 = 1005 | bound 1 0 = 1003 | branch 0 = -5 | bound 1 1 = 1000 | branch 0 = 1");
  }

  private static void stuck() throws Exception {
    holds(28, "NODES, numbered as they come, 40 at most", Problems.NODES_ANSWER + "branch 0 = 56 | branch 1 = 39 | branch 2 = 2 | branch 3 = 184 | branch 4 = 10 | branch 5 = 13 | branch 6 = 20 | branch 7 = 0",
        Problems.NODES_NO_MIX + "branch 0 = -5 | branch 1 = 39 | branch 3 = 166");
    // each NODE has 60 of its own: NODES 0 and 1 have 5 together
    holds(28, "REPAIR (60 PIVOTS).", Problems.ROUND + "branch 0 = -6 | branch 1 = 1 | branch 3 = 60", Problems.NODE_ROUND + "branch 0 = -6 | branch 1 = 3 | branch 2 = -6 | branch 3 = 65 | solve 0 = 2 | count 4 = 2");
    holds(28, "STUCK: a NODE is, or there would be more than 40.", Problems.NODES_STUCK + "branch 0 = -6 | branch 1 = 40 | branch 3 = 88", Problems.NODE_STUCK + "branch 0 = -6 | branch 1 = 3 | branch 3 = 20 | branch 8 = -6 | branch 9 = -1",
        Problems.BIGGER + "branch 0 = -6 | branch 1 = 1 | branch 3 = 4", Problems.FIRST_OF_TWO_STUCK + "branch 0 = -6 | branch 1 = 30 | branch 3 = 148",
        Problems.RIGHT_TAKEN + "branch 0 = -5 | branch 1 = 1 | branch 3 = 5", Problems.RIGHT_REFUSED + "branch 0 = -6 | branch 1 = 1 | branch 3 = 4");
  }

  private static void worth() throws Exception {
    holds(29, "WORTH, were BOUND of a RULE v. NONE; BAD.",
        "would 0 0 = -1 | would 0 1000 = -1 | rule 0 7 = 0 | factor 0 0 1 = 100 | would -1 0 = -1 | would 1 0 = -1 | would LOW 0 = -1 | would HIGH 0 = -1 | would 1 1000 = -1 | would 0 -100 = -2 | would 0 1000 = -2 | "
        + "would 0 LOW = -2 | would 0 HIGH = -2 | would 0 -99 = 0 | would 0 0 = 0 | would 0 1 = 1 | would 0 999 = 999 | ruleOf 0 1 = 1007",
        EIGHT + "would 7 5 = 0 | would 8 5 = -1");
    holds(29, "the VALUE, if it is WHOLE; -5, if there is NO MIX; -6 else.", Problems.HALF + "would 0 1 = -5 | would 0 0 = 0 | would 1 2 = 1 | would 1 -1 = -5", Problems.DEEP + "would 0 97 = -6 | would 0 150 = -5",
        Problems.BIGGER + "would 0 588 = -6", Problems.SIXTY_STUCK + "would 0 11 = -6", Problems.SIXTY_WHOLE + "would 0 0 = 0", Problems.SIXTY_NO_MIX + "would 0 2 = -5", Problems.SIXTY_PARTED + "would 0 1 = -6", Problems.ROUND + "would 0 -14 = -6 | ends = -6",
        "cost 0 0 = 1 | rule 0 7 = 0 | factor 0 0 1 = 100 | would 0 7 = 0");
    holds(29, "WORTH is -6 also if it is not WHOLE behind 12 CUTS.", Problems.TWELVE + "would 2 21 = 166 | ends = 166", Problems.DEEP + "would 0 97 = -6 | ends = -6 | solve 12 = 2 | count 3 = 12");
  }

  private static void seen() throws Exception {
    holds(30, "a PACK, how many (5 rows at most)", "see 0 0 = 1 | see 1 0 = 2 | see 0 0 = 3 | see 1 5 = 4 | see 0 9 = 5 | see 0 0 = -4 | see 1 999 = -4 | count 5 = 5 | see -1 0 = 0 | see 0 0 = 1");
    holds(30, "What is SEEN comes: how many there are (pack -1: none then, 0, whatever the other is). NONE; BAD: many (0 .. 999); FULL: 5.",
        "see -1 0 = 0 | see -1 -1 = 0 | see -1 1000 = 0 | see -1 LOW = 0 | see -1 HIGH = 0 | see 0 3 = 1 | see -1 HIGH = 0 | count 5 = 0",
        "see -2 0 = -1 | see 2 0 = -1 | see LOW 0 = -1 | see HIGH 0 = -1 | see 2 -1 = -1 | see 2 1000 = -1 | see 0 -1 = -2 | see 0 1000 = -2 | see 0 LOW = -2 | see 0 HIGH = -2 | count 5 = 0 | see 0 0 = 1 | see 1 999 = 2",
        "see 0 0 = 1 | see 0 0 = 2 | see 0 0 = 3 | see 0 0 = 4 | see 0 0 = 5 | see 2 0 = -1 | see 0 1000 = -2 | see 0 -1 = -2 | see 0 0 = -4 | count 5 = 5");
  }

  private static void fits() throws Exception {
    // a is the BOUND: 0, 5 .. 45; beside these there is none
    String same = "rule 0 7 = 0 | factor 0 0 1 = 100 | ";
    holds(31, "how many of BOUNDS 0, 5, 10 .. 45 there are by which, SOLVED with 12 CUTS, it would be WHOLE, and all SEEN so; the least (-5: none).",
        same + "fits 0 0 = 10 | fits 0 1 = 0 | see 0 0 = 1 | fits 0 0 = 1 | fits 0 1 = 0 | see -1 0 = 0 | see 0 45 = 1 | fits 0 0 = 1 | fits 0 1 = 45 | see -1 0 = 0 | see 0 50 = 1 | fits 0 0 = 0 | fits 0 1 = -5 | see -1 0 = 0 | "
        + "see 0 44 = 1 | fits 0 0 = 0 | see -1 0 = 0 | see 0 5 = 1 | fits 0 1 = 5 | see -1 0 = 0 | see 0 999 = 1 | fits 0 1 = -5 | see -1 0 = 0 | see 0 7 = 1 | fits 0 0 = 0 | ruleOf 0 1 = 1007",
        same + "see 0 5 = 1 | see 1 0 = 2 | see 0 5 = 3 | see 1 0 = 4 | see 0 5 = 5 | fits 0 0 = 1",
        same + "see 0 5 = 1 | see 1 0 = 2 | see 0 5 = 3 | see 1 0 = 4 | see 0 10 = 5 | fits 0 0 = 0", same + "see 0 10 = 1 | see 0 5 = 2 | see 1 0 = 3 | fits 0 0 = 0", same + "see 1 1 = 1 | fits 0 0 = 0 | fits 0 1 = -5",
        // from 25 on there is NO MIX; and with MOST from 0 on there is one again
        same + "rule 1 20 = 1 | factor 1 0 1 = 100 | fits 0 0 = 5 | fits 0 1 = 0 | fits 1 0 = 8 | fits 1 1 = 10 | bound 0 46 = 1007 | fits 1 0 = 0 | fits 1 1 = -5");
    holds(31, "With nothing SEEN, all that have a WORTH fit.", Problems.HALF + "fits 0 0 = 1 | fits 0 1 = 0 | fits 1 0 = 9 | fits 1 1 = 5", Problems.DEEP + "fits 0 0 = 0 | fits 0 1 = -5 | would 0 45 = -6",
        "rule 1 1 = 0 | fits 0 0 = 10", "rule 0 1 = 0 | fits 0 0 = 1 | fits 0 1 = 0");
    holds(31, "FITS: what 0 how many, 1 the least; -5. NONE: rule, what.",
        "fits 0 0 = -1 | rule 0 1 = 0 | fits -1 0 = -1 | fits 1 0 = -1 | fits LOW 0 = -1 | fits HIGH 0 = -1 | fits 0 -1 = -1 | fits 0 2 = -1 | fits 0 LOW = -1 | fits 0 HIGH = -1 | fits 0 0 = 1 | fits 0 1 = 0", EIGHT + "fits 7 0 = 10 | fits 8 0 = -1");
  }

  private static void odds() throws Exception {
    String same = "rule 0 7 = 0 | factor 0 0 1 = 100 | ";
    holds(32, "NO: rule, v (no BOUND), m (also v and m above 1000), c (below 0), part.",
        "odds 0 0 1 0 0 = NO | " + same + "odds -1 0 1 0 0 = NO | odds 1 0 1 0 0 = NO | odds LOW 0 1 0 0 = NO | odds HIGH 0 1 0 0 = NO | odds 0 -100 1 0 0 = NO | odds 0 1000 1 0 0 = NO | odds 0 LOW 1 0 0 = NO | odds 0 HIGH 1 0 0 = NO | "
        + "odds 0 0 0 0 0 = NO | odds 0 0 9 0 0 = NO | odds 0 0 -1 0 0 = NO | odds 0 0 LOW 0 0 = NO | odds 0 0 HIGH 0 0 = NO | odds 0 0 1 -1 0 = NO | odds 0 0 1 LOW 0 = NO | odds 0 0 1 0 -1 = NO | odds 0 0 1 0 2 = NO | "
        + "odds 0 0 1 0 LOW = NO | odds 0 0 1 0 HIGH = NO | odds 0 0 1 0 0 = 1 | odds 0 0 1 0 1 = 1 | odds 0 0 8 0 0 = 1 | odds 0 0 8 0 1 = 8 | ruleOf 0 1 = 1007",
        same + "odds 0 999 1 999 0 = 1 | odds 0 999 2 999 0 = NO | odds 0 998 2 999 0 = 1 | odds 0 998 3 999 0 = NO | odds 0 992 8 999 0 = 1 | odds 0 993 8 999 0 = NO | odds 0 993 7 999 0 = 1 | odds 0 -99 8 0 1 = 1 | odds 0 -99 1 0 0 = 1",
        EIGHT + "odds 7 0 1 0 0 = 1 | odds 8 0 1 0 0 = NO");
    holds(32, "its BOUND being v, v and 1, .. v and m less 1 (m 1 .. 8; 999 at most), each alike likely",
        same + "odds 0 5 8 12 0 = 1 | odds 0 5 8 12 1 = 1 | odds 0 5 8 11 0 = 7 | odds 0 5 8 11 1 = 8 | odds 0 5 8 5 0 = 1 | odds 0 5 8 5 1 = 8 | odds 0 5 8 4 0 = 0 | odds 0 5 1 5 0 = 1 | odds 0 5 1 4 0 = 0");
    holds(32, "how likely WORTH is c at most (and 0 or more): a fraction in lowest terms.",
        same + "odds 0 5 8 8 0 = 1 | odds 0 5 8 8 1 = 2 | odds 0 5 8 6 1 = 4 | odds 0 5 6 7 0 = 1 | odds 0 5 6 7 1 = 2 | odds 0 5 8 4 0 = 0 | odds 0 5 8 4 1 = 1 | odds 0 -5 6 0 0 = 1 | odds 0 -5 6 0 1 = 1 | odds 0 0 2 0 1 = 2 | "
        + "odds 0 5 8 HIGH 0 = 1 | odds 0 5 8 HIGH 1 = 1",
        // NO MIX from 3 on, and where it isn't WHOLE: these count for none
        same + "rule 1 2 = 1 | factor 1 0 1 = 100 | odds 0 0 8 HIGH 0 = 3 | odds 0 0 8 HIGH 1 = 8 | odds 0 3 8 HIGH 0 = 0 | odds 0 3 8 HIGH 1 = 1", Problems.DEEP + "odds 0 97 2 HIGH 0 = 0 | odds 0 97 2 HIGH 1 = 1");
  }

  private static void means() throws Exception {
    holds(33, "MEAN; part likewise. NO.", "mean -1 = NO | mean 2 = NO | mean LOW = NO | mean HIGH = NO | mean 0 = 1 | mean 1 = 1",
        "cost 0 0 = 1 | mean 0 = 1 | mean 1 = 2 | cost 1 0 = 1 | mean 0 = 0 | mean 1 = 1 | cost 0 99 = 0 | cost 1 99 = 0 | mean 0 = 99 | mean 1 = 1",
        "size 5 = 2 | cost 0 99 = 1 | cost 1 99 = 1 | cost 2 99 = 1 | cost 3 99 = 1 | cost 4 98 = 1 | mean 0 = 494 | mean 1 = 5 | size 1 = 5 | mean 0 = 1 | mean 1 = 1 | cost 0 7 = 1 | mean 0 = 7",
        "size 4 = 2 | cost 0 3 = 1 | mean 0 = 3 | mean 1 = 2");
  }

  private static void draws() throws Exception {
    holds(34, "RULES are m (1 .. 4) others", "drawn 1 0 = -2 | drawn 1 5 = -2 | drawn 1 -1 = -2 | drawn 1 LOW = -2 | drawn 1 HIGH = -2 | cost 0 99 = 1 | drawn 1 1 = 3 | drawn 1 4 = 6 | count 1 = 0",
        "cost 0 99 = 1 | rule 1 0 = 0 | rule 1 -9 = 1 | drawn 1 1 = 3 | drawn 1 4 = 6 | drawn 2 4 = 2091 | count 1 = 2 | ruleOf 0 0 = 1001",
        EIGHT + "factor 0 0 9 = 100 | bound 0 99 = 1000 | cost 0 99 = 1 | drawn 1 4 = 6 | drawn 2 4 = 2091 | drawn 2 1 = 12 | count 1 = 8 | ruleOf 0 1 = 1099 | ruleOf 0 2 = 1009");
    holds(34, "seed becomes seed * 1103515245 + 12345 (an int); (seed >>> 9) % k.",
        "cost 0 99 = 1 | drawn LOW 4 = 42 | drawn HIGH 2 = 7 | drawn -9 1 = 7 | drawn -1 1 = 13 | drawn 0 1 = 1", "size 5 = 2 | drawn LOW 4 = 13 | drawn HIGH 4 = 7 | drawn 0 4 = 6 | drawn -1 4 = -6");
  }
}
