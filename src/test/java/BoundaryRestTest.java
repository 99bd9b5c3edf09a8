/** Sentences that name a boundary case, each with a test of its own: offers, plans, judging, the image, tapes (promises 35 to 48). */
public final class BoundaryRestTest {
  private static final String EIGHT = "rule 0 0 = 0 | rule 1 0 = 1 | rule 0 0 = 2 | rule 1 0 = 3 | rule 0 0 = 4 | rule 1 0 = 5 | rule 0 0 = 6 | rule 1 0 = 7 | ";
  private static final String TWO = "rule 0 5 = 0 | factor 0 0 1 = 100 | rule 1 9 = 1 | factor 1 0 1 = 100 | ";

  public static void main(String[] args) throws Exception {
    offers();
    offersInOrder();
    dearest();
    plans();
    ends();
    judging();
    judgedSorts();
    images();
    counts();
    tapes();
    items();
    shifts();
    constants();
    Runs.end("boundaries of offers, plans, judging, the image, tapes", 35, 48);
  }

  private static void holds(int promise, String sentence, String... runs) throws Exception {
    Runs.holds(promise, sentence, runs);
  }

  private static String twenty() {
    StringBuilder calls = new StringBuilder();
    for (int k = 0; k < 20; k++) calls.append("offer ").append(k).append(' ').append(k).append(" = -5 | ");
    return calls.toString();
  }

  private static void offers() throws Exception {
    holds(35, "a MIX, an ASK (0 .. 999)", "offer 0 -1 = -2 | offer 0 1000 = -2 | offer 0 LOW = -2 | offer 0 HIGH = -2 | count 7 = 0 | offer 0 0 = -5 | offer 0 1000 = -2 | offer 0 -1 = -2 | offer 0 999 = 0 | offer 0 1000 = -2 | offer 0 5 = 999 | count 7 = 1");
    holds(35, "of one MIX the latest counts (20 MIXES at most)", twenty() + "count 7 = 20 | offer 20 1 = -4 | offer 99 1 = -4 | offer 19 999 = 19 | offer 0 7 = 0 | offer 19 0 = 999 | count 7 = 20 | offered 19 0 = 19 | offered 20 0 = -2 | offer 20 1 = -4 | cost 0 1 = 1 | offer 20 1 = -5");
    holds(35, "ASK of a MIX becomes v: what it was; -5: none. BAD: code, v; FULL: it has none yet, and there are 20.",
        "offer -1 5 = -2 | offer 100 5 = -2 | offer LOW 5 = -2 | offer HIGH 5 = -2 | count 7 = 0 | offer 99 5 = -5 | offer 99 6 = 5 | offer 0 6 = -5",
        twenty() + "offer 20 1000 = -2 | offer 100 5 = -2 | offer -1 5 = -2 | offer 20 5 = -4 | offer 5 1000 = -2 | offer 5 -1 = -2 | offer 5 5 = 5");
  }

  private static void offersInOrder() throws Exception {
    holds(36, "The k-th of OFFERS in ORDER: what 0 its CODE, 1 its ASK, 2 its COST. NONE: what; BAD: there is none such.",
        "offered 0 0 = -2 | offered -1 0 = -2 | offered 0 -1 = -1 | offered 0 3 = -1 | offer 12 7 = -5 | offered 0 0 = 12 | offered 0 1 = 7 | offered 0 2 = 3 | offered 0 3 = -1 | offered 0 -1 = -1 | offered 0 LOW = -1 | offered 0 HIGH = -1 | "
        + "offered 1 0 = -2 | offered -1 0 = -2 | offered LOW 0 = -2 | offered HIGH 0 = -2 | offered 1 3 = -1 | offered -1 -1 = -1",
        twenty() + "offered 19 0 = 19 | offered 20 0 = -2 | offered 0 0 = 0", "size 5 = 2 | cost 0 99 = 1 | cost 1 99 = 1 | cost 2 99 = 1 | cost 3 99 = 1 | cost 4 99 = 1 | offer 99999 999 = -5 | offered 0 2 = 4455 | offered 0 0 = 99999");
    holds(36, "ORDER of MIXES: by their COST, of like ones by CODES.", "offer 20 0 = -5 | offer 2 0 = -5 | offer 11 0 = -5 | offer 1 0 = -5 | offer 3 0 = -5 | offered 0 0 = 1 | offered 1 0 = 2 | offered 2 0 = 11 | offered 3 0 = 20 | offered 4 0 = 3",
        "cost 0 0 = 1 | offer 99 0 = -5 | offer 9 0 = -5 | offer 90 0 = -5 | offered 0 0 = 90 | offered 1 0 = 9 | offered 2 0 = 99");
    holds(37, "The last in ORDER of OFFERS whose COST is c at most: its CODE; -5: none.",
        "upTo 0 = -5 | upTo HIGH = -5 | offer 2 0 = -5 | offer 20 0 = -5 | offer 4 0 = -5 | upTo 1 = -5 | upTo 2 = 20 | upTo 3 = 20 | upTo 4 = 4 | upTo 5 = 4 | upTo HIGH = 4 | upTo -1 = -5 | upTo LOW = -5 | offer 0 0 = -5 | upTo 0 = 0 | upTo -1 = -5 | upTo 1 = 0",
        twenty() + "upTo 9 = 18 | upTo 10 = 19 | upTo 0 = 0");
  }

  private static void dearest() throws Exception {
    holds(38, "The OFFER whose ASK is most above its COST (or least below it), of like ones the first in ORDER: its CODE; -5: none.",
        "dearest = -5 | offer 9 0 = -5 | dearest = 9 | offer 90 0 = -5 | dearest = 9 | offer 90 1 = 0 | dearest = 90 | offer 9 1 = 0 | dearest = 9 | offer 99 10 = -5 | dearest = 9 | offer 99 11 = 10 | dearest = 99 | offer 1 0 = -5 | dearest = 1 | "
        + "offer 0 0 = -5 | dearest = 0 | offer 99 18 = 11 | dearest = 0 | offer 99 19 = 18 | dearest = 99 | cost 0 1 = 1 | dearest = -5",
        twenty() + "dearest = 10 | offer 0 9 = 0 | dearest = 0 | offer 0 8 = 9 | dearest = 10");
  }

  private static void plans() throws Exception {
    holds(39, "(0 BOUND of RULE k is v, 1 COST of PACK k is v, 2 FACTOR of the first PACK in RULE k is v; 8 rows at most)",
        TWO + "plan 0 0 6 = 1 | plan 1 0 6 = 2 | plan 2 0 6 = 3 | plan 0 1 6 = 4 | plan 1 1 6 = 5 | plan 2 1 6 = 6 | plan 0 0 0 = 7 | plan 0 0 0 = 8 | plan 0 0 0 = -4 | plan 1 0 0 = -4 | plan 2 0 0 = -4 | count 6 = 8 | plan -1 0 0 = 0 | plan 0 0 0 = 1");
    holds(39, "A row comes to the PLAN: how many there are (what -1: it is empty then, 0, whatever the others are). NONE: what (0 .. 2), k (no such RULE, PACK); BAD: v; FULL: 8.",
        "plan -1 0 0 = 0 | plan -1 LOW HIGH = 0 | plan -1 HIGH LOW = 0 | plan -1 -1 -1 = 0 | " + TWO + "plan 0 0 5 = 1 | plan -1 9 9999 = 0 | count 6 = 0",
        TWO + "plan -2 0 0 = -1 | plan 3 0 0 = -1 | plan LOW 0 0 = -1 | plan HIGH 0 0 = -1 | plan 0 -1 0 = -1 | plan 0 2 0 = -1 | plan 2 -1 0 = -1 | plan 2 2 0 = -1 | plan 1 -1 0 = -1 | plan 1 2 0 = -1 | plan 0 LOW 0 = -1 | plan 1 HIGH 0 = -1 | "
        + "plan 3 0 10000 = -1 | plan 0 2 1000 = -1 | plan 1 2 100 = -1 | plan 2 2 10 = -1 | count 6 = 0",
        // a RULE's number is none of a PACK's, nor the other way round
        "rule 0 0 = 0 | plan 0 1 0 = -1 | plan 2 1 0 = -1 | plan 1 1 0 = 1", "size 1 = 2 | rule 0 0 = 0 | rule 0 0 = 1 | plan 0 1 0 = 1 | plan 2 1 0 = 2 | plan 1 1 0 = -1", "plan 0 0 0 = -1 | plan 2 0 0 = -1", EIGHT + "plan 0 7 0 = 1 | plan 0 8 0 = -1 | plan 2 7 0 = 2 | plan 2 8 0 = -1",
        TWO + "plan 0 0 -100 = -2 | plan 0 0 1000 = -2 | plan 0 0 LOW = -2 | plan 0 0 HIGH = -2 | plan 1 0 -1 = -2 | plan 1 0 100 = -2 | plan 1 0 LOW = -2 | plan 1 0 HIGH = -2 | plan 2 0 -10 = -2 | plan 2 0 10 = -2 | plan 2 0 LOW = -2 | plan 2 0 HIGH = -2 | count 6 = 0 | "
        + "plan 0 0 -99 = 1 | plan 0 0 999 = 2 | plan 1 0 0 = 3 | plan 1 0 99 = 4 | plan 2 0 -9 = 5 | plan 2 0 9 = 6 | plan 0 0 0 = 7 | plan 0 0 0 = 8 | plan 3 0 0 = -1 | plan 0 2 0 = -1 | plan 0 0 1000 = -2 | plan 1 0 100 = -2 | plan 2 0 10 = -2 | plan 0 0 0 = -4 | count 6 = 8");
  }

  private static void ends() throws Exception {
    holds(40, "(0 BOUND of RULE k is v, 1 COST of PACK k is v, 2 FACTOR of the first PACK in RULE k is v; 8 rows at most)", "rule 0 5 = 0 | factor 0 1 1 = 100 | ends = 5 | plan 1 1 7 = 1 | ends = 35 | plan 2 0 1 = 2 | ends = 5",
        "size 1 = 2 | rule 0 1 = 0 | factor 0 0 1 = 100 | rule 0 8 = 1 | ends = -5 | plan 2 1 4 = 1 | ends = 2 | plan 0 1 9 = 2 | ends = 3");
    holds(40, "ENDS: WORTH then.", "ends = 0 | plan 1 0 99 = 1 | ends = 0", TWO + "ends = 5 | plan 0 0 9 = 1 | ends = 9 | plan 0 0 10 = 2 | ends = -5 | plan 0 0 -99 = 3 | ends = 0 | plan 0 0 4 = 4 | ends = 4 | plan 1 0 99 = 5 | ends = 396 | plan 1 0 0 = 6 | ends = 0 | "
        + "plan 1 0 1 = 7 | plan 2 0 0 = 8 | ends = -5 | ruleOf 0 1 = 1005 | ruleOf 0 2 = 1001 | mean 0 = 1 | plan -1 0 0 = 0 | ends = 5", Problems.BIGGER + "ends = -6");
    holds(40, "(What there is no more is passed over.)", TWO + "plan 0 1 1 = 1 | plan 2 1 9 = 2 | plan 0 0 3 = 3 | ends = -5 | less = 1 | ends = 3 | less = 0 | ends = 0 | count 6 = 3 | rule 0 8 = 0 | ends = -5 | factor 0 0 1 = 100 | ends = 3 | rule 1 9 = 1 | ends = -5 | "
        + "plan 0 1 27 = 4 | ends = 3", EIGHT + "plan 0 7 -1 = 1 | ends = -5 | less = 7 | ends = 0 | less = 6 | ends = 0");
  }

  private static void judging() throws Exception {
    // a is 5, b is 0
    String solved = TWO + "solve 0 = 1 | amount 0 0 = 5 | amount 1 0 = 0 | ";
    holds(41, "the first that is otherwise; -5: none; 100 and how many were looked at, if the row ends ahead of that (or the place is below 0, or the TAPE holds nothing).",
        solved + "tape 0 2 2 = 1 | judge 0 0 = 0 | item 0 0 5 = 1 | judge 0 0 = -5 | item 0 1 1 = 1 | judge 0 0 = 1 | item 0 1 -1 = 1 | judge 0 0 = 1 | item 0 0 4 = 1 | judge 0 0 = 0 | item 0 0 6 = 1 | judge 0 0 = 0",
        solved + "tape 0 2 3 = 1 | item 0 1 5 = 1 | judge 0 0 = 0 | judge 0 1 = -5 | judge 0 2 = 0 | judge 0 3 = 100 | judge 0 4 = 100 | judge 0 -1 = 100 | judge 0 LOW = 100 | judge 0 HIGH = 100 | item 0 2 5 = 1 | judge 0 2 = 101 | judge 0 1 = 1",
        solved + "tape 0 2 60 = 1 | item 0 58 5 = 1 | judge 0 58 = -5 | item 0 59 5 = 1 | judge 0 59 = 101 | judge 0 60 = 100 | judge 0 61 = 100 | judge 0 58 = 1", solved + "tape 0 2 0 = 1 | judge 0 0 = 100 | judge 0 1 = 100 | judge 0 -1 = 100",
        solved + "tape 0 2 1 = 1 | judge 0 0 = 0 | item 0 0 5 = 1 | judge 0 0 = 101 | item 0 0 4294967301 = 1 | judge 0 0 = 101",
        "size 5 = 2 | rule 0 7 = 0 | factor 0 4 1 = 100 | solve 0 = 1 | tape 5 2 6 = 1 | item 5 5 7 = 1 | judge 5 1 = -5 | judge 5 0 = 4 | judge 5 2 = 3 | item 5 5 0 = 1 | judge 5 1 = 4 | judge 5 2 = 104 | judge 5 5 = 101");
    holds(41, "judge() of a TAPE that holds nothing: 100.", solved + "judge 0 0 = 100 | judge 5 -1 = 100 | judge 5 HIGH = 100 | tape 0 2 2 = 1 | judge 0 0 = 0 | tape 0 -1 0 = 1 | judge 0 0 = 100");
    holds(41, "JUDGED from place i of a TAPE on. NONE: tape; CAST: it is no row of ints; STATE: there is no WHOLE TABLE.",
        "judge -1 0 = -1 | judge 6 0 = -1 | judge LOW 0 = -1 | judge HIGH 0 = -1 | judge 5 0 = -3 | tape 5 2 2 = 1 | judge 5 0 = -3 | tape 5 3 2 = 1 | judge 5 0 = -12 | judge 5 -1 = -12 | judge 5 HIGH = -12 | solve 0 = 1 | judge 5 0 = -12 | judge 6 0 = -1 | tape 5 2 2 = 1 | judge 5 0 = -5 | "
        + "cost 0 1 = 1 | judge 5 0 = -3");
    // not WHOLE by 0 CUTS; NO MIX; STUCK
    holds(41, "STATE: there is no WHOLE TABLE.", Problems.SMALL + "tape 0 2 2 = 1 | solve 0 = 2 | judge 0 0 = -3 | solve 1 = 1 | judge 0 0 = 0 | item 0 0 2 = 1 | item 0 1 1 = 1 | judge 0 0 = -5 | solve 0 = 2 | judge 0 0 = -3 | solve 1 = 1 | image = 2 | judge 0 0 = -5 | undo = 2 | judge 0 0 = -3",
        "rule 0 1 = 0 | tape 0 2 2 = 1 | solve 0 = 0 | amount 0 0 = 0 | amount 1 0 = 0 | judge 0 0 = -3", Problems.BIGGER + "tape 0 2 5 = 1 | solve 0 = -6 | judge 0 0 = -3", Problems.SIXTY_STUCK + "tape 0 2 5 = 1 | solve 12 = -6 | judge 0 0 = -3");
  }

  private static void judgedSorts() throws Exception {
    for (int sort = 0; sort <= 4; sort++) {
      holds(41, "CAST: it is no row of ints", "solve 0 = 1 | tape 0 " + sort + " 2 = 1 | judge 0 0 = " + (sort == 2 ? -5 : -12) + " | tape 0 " + sort + " 0 = 1 | judge 0 0 = " + (sort == 2 ? 100 : -12));
    }
  }

  private static void images() throws Exception {
    holds(43, "STATE: there is none.", "undo = -3 | solve 0 = 1 | cost 0 100 = -2 | undo = -3 | value 0 = 0 | image = 0 | value 0 = 0 | undo = 0 | value 0 = NO | undo = 0", "size 5 = 2 | undo = -3 | count 0 = 5");
    holds(42, "THE IMAGE is taken: how many RULES.", "image = 0 | " + EIGHT + "image = 8 | less = 7 | undo = 8 | ruleOf 7 0 = 1001 | less = 7 | image = 7 | rule 0 0 = 7 | undo = 7 | rule 0 5 = 7 | ruleOf 7 1 = 1005");
    String filled = "size 5 = 2 | cost 0 99 = 1 | cost 4 0 = 1 | " + EIGHT.replace("rule 1 0 = 7", "rule 1 999 = 7") + "factor 7 4 9 = 100 | hand 0 1 = 0 | hand 7 9 = 0 | by 10 = 1 | box 6 = 4 | see 4 999 = 1 | see 0 0 = 2 | see 0 0 = 3 | see 0 0 = 4 | see 0 0 = 5 | "
        + "plan 0 7 -99 = 1 | plan 1 4 99 = 2 | plan 2 7 9 = 3 | plan 0 0 1 = 4 | plan 0 0 1 = 5 | plan 0 0 1 = 6 | plan 0 0 1 = 7 | plan 0 0 1 = 8 | offer 99999 999 = -5 | offer 0 0 = -5 | text a>1 | tape 0 2 3 = 1 | item 0 0 5 = 1 | ";
    String told = "count 0 = 5 | count 1 = 8 | count 2 = 0 | count 5 = 5 | count 6 = 8 | count 7 = 2 | count 9 = 6 | ruleOf 7 0 = 1001 | ruleOf 7 1 = 1999 | ruleOf 7 6 = 1009 | offered 0 0 = 0 | offered 1 0 = 99999 | offered 1 1 = 999 | ends = -5 | "
        + "fits 0 0 = 0 | points 4 = 8 | hand 7 9 = 9 | hand 0 1 = 1 | by 10 = 10 | see 0 0 = -4 | plan 0 0 0 = -4 | ";
    String costs = "cost 0 99 = 99 | cost 4 0 = 0 | cost 1 1 = 1";
    String sentence = "THE IMAGE: PACKS, COSTS, RULES, HANDS, BY, BOX, SEEN, the PLAN, OFFERS.";
    holds(43, sentence, filled + "image = 8 | size 1 = 5 | undo = 8 | " + told + costs, filled + "image = 8 | size 5 = 5 | rule 0 1 = 0 | hand 0 9 = 0 | see 0 7 = 1 | offer 5 5 = -5 | plan 1 0 3 = 1 | box 0 = 6 | by 3 = 1 | cost 0 4 = 1 | undo = 8 | " + told + costs,
        filled + "image = 8 | undo = 8 | size 2 = 5 | undo = 8 | " + told + costs,
        // what was told behind THE IMAGE, in the place of what it holds
        TWO + "see 0 5 = 1 | see 1 0 = 2 | plan 0 0 6 = 1 | plan 2 0 2 = 2 | offer 10 7 = -5 | offer 1 8 = -5 | fits 0 0 = 1 | fits 0 1 = 5 | ends = 3 | image = 2 | see -1 0 = 0 | see 1 7 = 1 | see 0 3 = 2 | plan -1 0 0 = 0 | plan 2 0 3 = 1 | plan 0 1 2 = 2 | "
        + "offer 1 99 = 8 | offer 10 98 = 7 | cost 1 9 = 1 | offer 22 3 = -5 | offer 33 4 = -5 | offer 0 0 = -5 | ends = 2 | fits 0 0 = 0 | undo = 2 | fits 0 0 = 1 | fits 0 1 = 5 | ends = 3 | count 7 = 2 | offered 0 0 = 1 | offered 0 1 = 8 | offered 0 2 = 1 | offered 1 0 = 10 | "
        + "offered 1 1 = 7 | offered 1 2 = 1 | see 0 9 = 3 | offer 1 5 = 8 | plan 0 0 9 = 3 | undo = 2 | fits 0 0 = 1 | offered 0 1 = 8 | ends = 3 | cost 1 1 = 1",
        // THE IMAGE of what is empty
        "image = 0 | " + filled + "undo = 0 | count 0 = 2 | count 1 = 0 | count 5 = 0 | count 6 = 0 | count 7 = 0 | count 9 = 4 | by 1 = 1 | cost 0 1 = 1 | rule 0 0 = 0 | hand 0 0 = 0 | ruleOf 0 2 = 1000 | size 5 = 2 | cost 4 1 = 1");
    holds(43, "(Not THE TEXT, TAPES. There is no TABLE behind undo().)", "text a> | tape 0 2 1 = 1 | item 0 0 5 = 1 | solve 0 = 1 | image = 0 | value 0 = 0 | feed 49 = 3 | item 0 0 7 = 1 | tape 1 0 2 = 1 | undo = 0 | value 0 = NO | count 2 = 0 | count 4 = 0 | count 8 = 3 | peek 0 0 = 7 | "
        + "peek 1 1 = 0 | read = 1 | undo = 0 | count 8 = 0 | count 1 = 0");
  }

  private static void counts() throws Exception {
    holds(44, "BAD.", "count -1 = -2 | count 10 = -2 | count LOW = -2 | count HIGH = -2 | count 0 = 2 | count 9 = 4");
    holds(44, "2 ROWS, 3 CUTS, 4 PIVOTS (2 .. 4 of THE TABLE; 0 without)", EIGHT + "count 2 = 0 | solve 0 = 1 | count 2 = 8 | count 3 = 0 | count 4 = 0 | less = 7 | count 2 = 0",
        Problems.TWELVE + "count 2 = 0 | count 3 = 0 | count 4 = 0 | solve 12 = 1 | count 2 = 15 | count 3 = 12 | count 4 = 14 | solve 0 = 2 | count 2 = 3 | count 3 = 0 | count 4 = 2 | cost 0 75 = 75 | count 2 = 0 | count 3 = 0 | count 4 = 0",
        // what is in thought leaves them
        Problems.SMALL + "solve 0 = 2 | branch 3 = 11 | would 0 8 = 11 | drawn 1 4 = 24 | ends = 10 | count 2 = 2 | count 3 = 0 | count 4 = 2");
    holds(44, "5 SEEN, 6 of the PLAN, 7 OFFERS, 8 bytes of THE TEXT, 9 BOX.", "see 0 0 = 1 | see 0 0 = 2 | see 0 0 = 3 | see 0 0 = 4 | see 0 0 = 5 | see 0 0 = -4 | count 5 = 5 | plan 1 0 0 = 1 | count 6 = 1 | " + twenty() + "offer 20 0 = -4 | count 7 = 20 | text " + "a".repeat(80) + " | feed 97 = -4 | "
        + "count 8 = 80 | box 0 = 4 | count 9 = 0 | box 6 = 0 | count 9 = 6 | count 0 = 2 | count 1 = 0");
  }

  private static void tapes() throws Exception {
    holds(45, "TAPES 0 .. 5 hold nothing (at first)", "peek 0 0 = NO | peek 5 0 = NO | item 0 0 1 = -11 | item 5 0 1 = -11 | shift 0 0 5 0 0 = -11 | tape 0 0 1 = 1 | tape 5 0 1 = 1 | tape 6 0 1 = -1 | tape -1 0 1 = -1 | peek 0 0 = 0 | peek 5 0 = 0 | peek 6 0 = NO | peek -1 0 = NO | peek 1 0 = NO | peek 4 0 = NO");
    holds(45, "A TAPE becomes a row of n (0 .. 60) of a sort, all 0, or holds nothing (sort -1: n does not matter): 1. NONE: tape; BAD: sort, n above 60; SIZE.",
        "tape 0 2 60 = 1 | peek 0 59 = 0 | peek 0 60 = NO | tape 0 2 61 = -2 | tape 0 2 HIGH = -2 | tape 0 2 -1 = -14 | tape 0 2 LOW = -14 | peek 0 59 = 0 | tape 0 2 0 = 1 | peek 0 0 = NO | item 0 0 1 = -13 | tape 0 2 1 = 1 | peek 0 0 = 0 | peek 0 1 = NO",
        "tape 0 -2 1 = -2 | tape 0 5 1 = -2 | tape 0 LOW 1 = -2 | tape 0 HIGH 1 = -2 | tape 0 -2 -1 = -2 | tape 0 5 -1 = -2 | tape 0 5 61 = -2 | item 0 0 1 = -11 | tape 6 5 -1 = -1 | tape -1 -2 61 = -1 | tape LOW 0 1 = -1 | tape HIGH 0 1 = -1 | tape 6 -1 0 = -1",
        "tape 0 2 3 = 1 | item 0 2 7 = 1 | tape 0 -1 61 = 1 | item 0 0 1 = -11 | tape 0 -1 -1 = 1 | tape 0 -1 LOW = 1 | tape 0 -1 HIGH = 1 | peek 0 2 = NO | tape 0 2 3 = 1 | peek 0 2 = 0 | item 0 2 7 = 1 | tape 0 2 3 = 1 | peek 0 2 = 0 | item 0 2 7 = 1 | tape 0 2 2 = 1 | tape 0 2 3 = 1 | peek 0 2 = 0");
    for (int sort = 0; sort <= 4; sort++) {
      holds(45, "a row of 0 bytes, 1 shorts, 2 ints, 3 longs, 4 booleans (items 0, 1)", "tape 3 " + sort + " 60 = 1 | item 3 59 1 = 1 | peek 3 59 = 1 | peek 3 58 = 0 | tape 3 " + sort + " 61 = -2 | tape 3 " + sort + " -1 = -14 | peek 3 59 = 1 | tape 3 " + sort + " 0 = 1 | peek 3 0 = NO");
    }
  }

  private static void items() throws Exception {
    String sentence = "(its lowest bits, as many as an item has; booleans: whether v is not 0)";
    holds(46, sentence, "tape 0 0 1 = 1 | item 0 0 127 = 1 | peek 0 0 = 127 | item 0 0 128 = 1 | peek 0 0 = -128 | item 0 0 -128 = 1 | peek 0 0 = -128 | item 0 0 -129 = 1 | peek 0 0 = 127 | item 0 0 256 = 1 | peek 0 0 = 0 | item 0 0 -1 = 1 | peek 0 0 = -1 | item 0 0 NO = 1 | peek 0 0 = 0 | "
        + "item 0 0 9223372036854775807 = 1 | peek 0 0 = -1");
    holds(46, sentence, "tape 0 1 1 = 1 | item 0 0 32767 = 1 | peek 0 0 = 32767 | item 0 0 32768 = 1 | peek 0 0 = -32768 | item 0 0 -32768 = 1 | peek 0 0 = -32768 | item 0 0 -32769 = 1 | peek 0 0 = 32767 | item 0 0 65536 = 1 | peek 0 0 = 0 | item 0 0 9223372036854775807 = 1 | peek 0 0 = -1");
    holds(46, sentence, "tape 0 2 1 = 1 | item 0 0 HIGH = 1 | peek 0 0 = HIGH | item 0 0 2147483648 = 1 | peek 0 0 = LOW | item 0 0 LOW = 1 | peek 0 0 = LOW | item 0 0 -2147483649 = 1 | peek 0 0 = HIGH | item 0 0 4294967296 = 1 | peek 0 0 = 0 | item 0 0 9223372036854775807 = 1 | peek 0 0 = -1");
    holds(46, sentence, "tape 0 3 2 = 1 | item 0 0 9223372036854775807 = 1 | peek 0 0 = 9223372036854775807 | item 0 1 -9223372036854775807 = 1 | peek 0 1 = -9223372036854775807 | item 0 0 4294967296 = 1 | peek 0 0 = 4294967296");
    holds(46, sentence, "tape 0 4 1 = 1 | item 0 0 1 = 1 | peek 0 0 = 1 | item 0 0 0 = 1 | peek 0 0 = 0 | item 0 0 2 = 1 | peek 0 0 = 1 | item 0 0 -1 = 1 | peek 0 0 = 1 | item 0 0 0 = 1 | item 0 0 256 = 1 | peek 0 0 = 1 | item 0 0 0 = 1 | item 0 0 4294967296 = 1 | peek 0 0 = 1 | item 0 0 0 = 1 | item 0 0 NO = 1 | peek 0 0 = 1");
    holds(46, "NONE; NOTHING; PLACE.", "item -1 0 1 = -1 | item 6 0 1 = -1 | item LOW 0 1 = -1 | item HIGH 0 1 = -1 | item 6 -1 1 = -1 | item 0 -1 1 = -11 | item 0 60 1 = -11 | item 0 0 1 = -11 | tape 0 2 2 = 1 | item 0 -1 1 = -13 | item 0 2 1 = -13 | item 0 LOW 1 = -13 | item 0 HIGH 1 = -13 | item 0 0 5 = 1 | "
        + "item 0 1 6 = 1 | peek 0 0 = 5 | peek 0 1 = 6 | item 5 0 1 = -11", "tape 5 0 60 = 1 | item 5 59 1 = 1 | item 5 60 1 = -13");
    holds(47, "NO: no such TAPE, nothing there, no such place.", "peek -1 0 = NO | peek 6 0 = NO | peek LOW 0 = NO | peek HIGH 0 = NO | peek 0 0 = NO | peek 0 -1 = NO | tape 0 0 2 = 1 | peek 0 -1 = NO | peek 0 0 = 0 | peek 0 1 = 0 | peek 0 2 = NO | peek 0 LOW = NO | peek 0 HIGH = NO | tape 0 0 0 = 1 | "
        + "peek 0 0 = NO | tape 0 0 60 = 1 | peek 0 59 = 0 | peek 0 60 = NO | tape 0 -1 0 = 1 | peek 0 0 = NO");
  }

  private static void shifts() throws Exception {
    String rows = "tape 0 2 3 = 1 | tape 5 2 4 = 1 | item 0 0 1 = 1 | item 0 1 2 = 1 | item 0 2 3 = 1 | ";
    holds(48, "PLACE: n, i or j is below 0, or beyond either's end.",
        rows + "shift 0 0 5 0 -1 = -13 | shift 0 -1 5 0 1 = -13 | shift 0 0 5 -1 1 = -13 | shift 0 0 5 0 4 = -13 | shift 0 1 5 0 3 = -13 | shift 0 0 5 2 3 = -13 | shift 0 4 5 0 0 = -13 | shift 0 0 5 5 0 = -13 | shift 0 -1 5 0 0 = -13 | shift 0 0 5 -1 0 = -13 | "
        + "shift 0 1 5 1 HIGH = -13 | shift 0 HIGH 5 HIGH HIGH = -13 | shift 0 LOW 5 0 1 = -13 | shift 0 0 5 LOW 1 = -13 | shift 0 0 5 0 LOW = -13 | shift 0 HIGH 5 0 1 = -13 | shift 0 0 5 HIGH 1 = -13 | peek 5 0 = 0 | peek 5 1 = 0 | peek 5 2 = 0 | peek 5 3 = 0 | "
        + "shift 0 3 5 4 0 = 0 | shift 0 0 5 0 0 = 0 | peek 5 0 = 0 | shift 0 0 5 1 3 = 3 | peek 5 0 = 0 | peek 5 1 = 1 | peek 5 3 = 3 | shift 5 1 0 0 3 = 3 | shift 5 0 0 0 4 = -13 | shift 5 0 5 0 4 = 4 | peek 5 0 = 0 | peek 5 3 = 3",
        "tape 0 2 0 = 1 | shift 0 0 0 0 0 = 0 | shift 0 0 0 0 1 = -13 | shift 0 1 0 0 0 = -13 | shift 0 0 0 1 0 = -13", "tape 0 0 60 = 1 | tape 1 0 60 = 1 | item 0 59 7 = 1 | shift 0 0 1 0 60 = 60 | peek 1 59 = 7 | shift 0 0 1 0 61 = -13 | shift 0 1 1 0 60 = -13 | shift 0 60 1 60 0 = 0");
    holds(48, "n items of a TAPE from i on come to another one (or the same) from j on, as they all were before: n.",
        rows + "shift 0 0 0 1 2 = 2 | peek 0 0 = 1 | peek 0 1 = 1 | peek 0 2 = 2", rows + "shift 0 1 0 0 2 = 2 | peek 0 0 = 2 | peek 0 1 = 3 | peek 0 2 = 3", rows + "shift 0 0 0 0 3 = 3 | peek 0 0 = 1 | peek 0 2 = 3",
        "tape 1 0 60 = 1 | item 1 0 -1 = 1 | item 1 1 2 = 1 | item 1 58 3 = 1 | shift 1 0 1 1 59 = 59 | peek 1 0 = -1 | peek 1 1 = -1 | peek 1 2 = 2 | peek 1 59 = 3 | peek 1 58 = 0");
    holds(48, "NONE: tapes; NOTHING; CAST: of unlike sorts;", "shift -1 0 0 0 0 = -1 | shift 6 0 0 0 0 = -1 | shift 0 0 -1 0 0 = -1 | shift 0 0 6 0 0 = -1 | shift LOW 0 0 0 0 = -1 | shift 0 0 HIGH 0 0 = -1 | shift 0 -1 6 0 -1 = -1 | shift 0 0 0 0 0 = -11 | shift 0 -1 5 0 -1 = -11 | tape 0 2 2 = 1 | shift 0 0 5 0 0 = -11 | "
        + "shift 5 0 0 0 0 = -11 | shift 0 -1 5 0 0 = -11 | tape 5 3 2 = 1 | shift 0 0 5 0 1 = -12 | shift 5 0 0 0 1 = -12 | shift 0 -1 5 0 1 = -12 | shift 0 0 5 0 9 = -12 | shift 0 0 5 0 0 = -12 | tape 5 2 2 = 1 | shift 0 0 5 0 1 = 1");
    for (int sort = 0; sort <= 4; sort++) {
      for (int other = 0; other <= 4; other++) {
        holds(48, "CAST: of unlike sorts", "tape 0 " + sort + " 1 = 1 | tape 1 " + other + " 1 = 1 | item 0 0 1 = 1 | shift 0 0 1 0 1 = " + (sort == other ? 1 : -12) + " | peek 1 0 = " + (sort == other ? 1 : 0));
      }
    }
  }

  private static void constants() throws Exception {
    holds(44, "`NO = Long.MIN_VALUE`: There is no such number.", "value 0 = " + WholePacks.NO);
    holds(44, "Answers: NONE (-1) no such number; BAD (-2) a number is not as told; STATE (-3) as told; FULL (-4)",
        "cost 2 0 = " + WholePacks.NONE + " | count 10 = " + WholePacks.BAD + " | undo = " + WholePacks.STATE + " | " + EIGHT + "rule 0 0 = " + WholePacks.FULL);
    if (WholePacks.NONE != -1 || WholePacks.BAD != -2 || WholePacks.STATE != -3 || WholePacks.FULL != -4 || WholePacks.NO != Long.MIN_VALUE) Runs.say("a constant is wrong");
  }
}
