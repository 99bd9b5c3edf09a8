/**
 * Sentences that name a boundary case, each with a test of its own: THE TABLE, its CUTS (promises 11 to 18).
 * Of "A CUT by which it is STUCK is not made" there is none: no POINTS come near to 1000000000 (NOTES.md says why),
 * and no CUT comes that isn't PROVED.
 */
public final class BoundaryTableTest {
  private static final String EIGHT_AND_TWELVE = Problems.DEEP + "rule 0 0 = 4 | rule 1 999 = 5 | rule 0 -99 = 6 | rule 1 0 = 7 | ";

  public static void main(String[] args) throws Exception {
    howManyCuts();
    repairing();
    ties();
    farNumbers();
    sixtyPivots();
    cutting();
    entries();
    fractions();
    cutsAndWeights();
    Runs.end("boundaries of the table", 11, 18);
  }

  private static void holds(int promise, String sentence, String... runs) throws Exception {
    Runs.holds(promise, sentence, runs);
  }

  private static void howManyCuts() throws Exception {
    holds(11, "SOLVED with k CUTS (0 .. 12)",
        "solve -1 = -2 | solve 13 = -2 | solve LOW = -2 | solve HIGH = -2 | value 0 = NO | solve 0 = 1 | solve -1 = -2 | solve 13 = -2 | value 0 = 0 | solve 12 = 1 | solve 13 = -2 | value 0 = 0");
    holds(11, "but no more than k CUTS.",
        Problems.TWELVE + "solve 0 = 2 | count 3 = 0 | value 0 = 1625 | solve 1 = 2 | count 3 = 1 | solve 11 = 2 | count 3 = 11 | cut 10 0 = -3 | cut 11 0 = NO | value 0 = 164 | "
        + "solve 12 = 1 | count 3 = 12 | cut 11 0 = -4 | cut 12 0 = NO | value 0 = 166",
        Problems.DEEP + "solve 12 = 2 | count 3 = 12 | cut 12 0 = NO");
    holds(11, "as long as some PACK that owns a ROW has a RIGHT that is no multiple of DIVISOR (else it is WHOLE)",
        "size 1 = 2 | rule 0 4 = 0 | factor 0 0 2 = 100 | solve 12 = 1 | count 3 = 0 | entry 0 1 = 4 | entry -1 2 = 2 | bound 0 5 = 1004 | solve 0 = 2 | entry 0 1 = 5 | solve 12 = 1 | count 3 = 1 | "
        + "bound 0 0 = 1005 | solve 12 = 1 | count 3 = 0 | bound 0 -5 = 1000 | solve 12 = 1 | count 3 = 0 | amount 0 0 = 0",
        // 5 by 3 at first, then 4 by 2
        "size 1 = 2 | rule 0 4 = 0 | factor 0 0 2 = 100 | rule 0 5 = 1 | factor 1 0 3 = 100 | solve 0 = 1 | count 4 = 2 | entry 0 1 = 2 | entry 0 2 = 11 | entry 1 1 = 4 | entry 1 2 = 0 | amount 0 0 = 2");
    holds(11, "1 it is WHOLE, 2 it isn't, 0 there is NO MIX, -6 STUCK; THE TABLE stays as it is then. BAD.",
        Problems.SMALL + "solve 1 = 1 | value 0 = 10 | solve 0 = 2 | value 0 = 19 | bound 1 -1 = 1002 | solve 0 = 0 | entry 1 3 = 0 | entry 1 2 = 10 | amount 1 0 = -1 | count 4 = 2 | solve 13 = -2 | entry 1 2 = 10",
        Problems.BIGGER + "solve 0 = -6 | count 4 = 4 | count 2 = 5 | solve -1 = -2 | count 4 = 4");
  }

  private static void repairing() throws Exception {
    holds(11, "as long as a RIGHT is below 0",
        "size 1 = 2 | rule 0 0 = 0 | factor 0 0 1 = 100 | rule 1 0 = 1 | factor 1 0 1 = 100 | solve 0 = 1 | count 4 = 0 | bound 0 1 = 1000 | bound 1 1 = 1000 | solve 0 = 1 | count 4 = 1 | amount 0 0 = 1",
        "size 1 = 2 | rule 0 0 = 0 | solve 0 = 1 | count 4 = 0 | bound 0 1 = 1000 | solve 0 = 0 | count 4 = 0",
        "size 1 = 2 | rule 1 -1 = 0 | factor 0 0 -1 = 100 | solve 0 = 1 | count 4 = 1 | bound 0 0 = 999 | solve 0 = 1 | count 4 = 0");
    holds(11, "of COLUMNS in which its ENTRY is below 0",
        "rule 0 5 = 0 | factor 0 1 1 = 100 | cost 1 99 = 1 | cost 0 0 = 1 | solve 0 = 1 | amount 0 0 = 0 | amount 1 0 = 5",
        "rule 0 5 = 0 | factor 0 0 -1 = 100 | factor 0 1 1 = 100 | cost 1 99 = 1 | cost 0 0 = 1 | solve 0 = 1 | amount 1 0 = 5");
    holds(11, "If there is no such COLUMN: there is NO MIX",
        "rule 0 1 = 0 | solve 0 = 0 | solve 12 = 0 | factor 0 0 -9 = 100 | factor 0 1 -1 = 100 | solve 12 = 0 | count 4 = 0 | count 3 = 0 | factor 0 1 1 = 99 | solve 12 = 1",
        Problems.HALF + "solve 0 = 2 | solve 1 = 0 | count 3 = 1 | count 4 = 2 | solve 12 = 0 | count 3 = 1");
  }

  private static void ties() throws Exception {
    // the first of both has no COLUMN: NO MIX at once; the second would have had a PIVOT
    holds(11, "the ROW with the least, of like ones the first",
        "size 1 = 2 | rule 0 8 = 0 | rule 0 8 = 1 | factor 1 0 1 = 100 | solve 0 = 0 | count 4 = 0 | bound 0 7 = 1008 | solve 0 = 0 | count 4 = 1 | bound 0 9 = 1007 | solve 0 = 0 | count 4 = 0");
    holds(11, "that in which RISE by -ENTRY is least, of like ones the one with the least OWNER",
        "cost 0 2 = 1 | cost 1 3 = 1 | rule 0 5 = 0 | factor 0 0 2 = 100 | factor 0 1 3 = 100 | solve 0 = 2 | entry -2 0 = 10 | entry -2 1 = 1 | cost 0 3 = 2 | solve 0 = 2 | entry -2 0 = 0 | "
        + "entry -2 1 = 10 | cost 0 2 = 3 | cost 1 2 = 3 | solve 0 = 2 | entry -2 1 = 10",
        "size 3 = 2 | cost 1 2 = 1 | rule 0 5 = 0 | factor 0 0 1 = 100 | factor 0 2 1 = 100 | solve 0 = 1 | entry 0 4 = 0 | amount 0 0 = 5 | amount 2 0 = 0",
        // a PACK's own number is less than a LEFT's: the second COLUMN then
        "cost 0 0 = 1 | cost 1 0 = 1 | rule 0 17 = 0 | factor 0 0 2 = 100 | factor 0 1 1 = 100 | solve 1 = 1 | entry -2 0 = 10 | entry -2 1 = 20 | entry 1 3 = 1 | entry 0 3 = 0 | amount 0 0 = 8 | amount 1 0 = 1");
    holds(11, "a CUT by the first such ROW",
        "cost 0 0 = 1 | cost 1 0 = 1 | rule 0 2 = 0 | factor 0 0 -1 = 100 | factor 0 1 5 = 100 | solve 12 = 1 | count 3 = 3 | cut 2 0 = 0 | cut 2 1 = -2 | cut 2 2 = -2",
        // by ROWS, not by PACKS: b's ROW is the first
        "cost 0 5 = 1 | cost 1 0 = 1 | rule 0 3 = 0 | factor 0 1 2 = 100 | rule 0 1 = 1 | factor 1 0 2 = 100 | solve 12 = 1 | cut 0 0 = 0 | cut 0 1 = -1 | cut 0 2 = -2 | cut 1 0 = -1 | cut 1 2 = -1");
  }

  private static void farNumbers() throws Exception {
    holds(11, "If some number would be above 1000000000, or below -1000000000, it is not done: STUCK.",
        Problems.BASE_TAKEN + "solve 0 = 2 | count 4 = 5 | entry -1 5 = 1000000000 | entry -1 6 = 7385 | value 0 = 200000000 | value 1 = 1477",
        Problems.BASE_REFUSED + "solve 0 = -6 | count 4 = 4 | entry -1 5 = 61445787 | entry -1 6 = 645",
        Problems.RIGHT_TAKEN + "solve 0 = 0 | count 4 = 5 | entry 4 5 = -1000000000 | entry 4 6 = 14 | entry -1 6 = 32820",
        Problems.RIGHT_REFUSED + "solve 0 = -6 | count 4 = 4 | entry 0 5 = -55887512 | entry -1 6 = 9713",
        Problems.ENTRY_ABOVE + "solve 12 = -6 | count 4 = 28 | count 3 = 12 | count 2 = 17 | entry 2 5 = 58485452 | entry -1 6 = 2159004",
        Problems.ENTRY_BELOW + "solve 12 = -6 | count 4 = 25 | count 3 = 12 | entry -1 5 = 698367420 | entry -1 6 = 13954228",
        Problems.RIGHT_ABOVE + "solve 12 = -6 | count 4 = 32 | count 3 = 12 | entry 5 5 = 132020186",
        Problems.RISE_ABOVE + "solve 12 = -6 | count 4 = 21 | count 3 = 12 | entry -1 2 = 341119906");
  }

  private static void sixtyPivots() throws Exception {
    holds(11, "(60 PIVOTS in all.)", Problems.SIXTY_WHOLE + "solve 12 = 1 | count 4 = 60 | count 3 = 12 | value 0 = 0",
        Problems.SIXTY_PARTED + "solve 12 = 2 | count 4 = 60 | count 3 = 12 | amount 1 0 = 1 | amount 1 1 = 3");
    holds(11, "else, if 60 PIVOTS were done: STUCK.", Problems.SIXTY_STUCK + "solve 12 = -6 | count 4 = 60 | solve 0 = 2 | solve 12 = -6",
        Problems.ROUND + "solve 0 = -6 | count 4 = 60 | count 3 = 0");
    holds(11, "A COLUMN is looked for ahead of asking for 60 PIVOTS.", Problems.SIXTY_NO_MIX + "solve 12 = 0 | count 4 = 60 | count 3 = 12");
  }

  private static void cutting() throws Exception {
    // a's ROW: ENTRY -1, RIGHT 1, DIVISOR 2: the CUT's -1 and -1; one more PIVOT, and 2 has another sign
    holds(11, "ENTRIES and RIGHT are those of that ROW modulo DIVISOR (not below 0), with the other sign",
        "size 1 = 2 | rule 0 15 = 0 | factor 0 0 2 = 100 | solve 0 = 2 | entry 0 0 = -1 | entry 0 1 = 15 | solve 1 = 1 | count 4 = 2 | entry -2 0 = 20 | entry 0 0 = -1 | entry 0 1 = 8 | entry 1 0 = -2 | "
        + "entry 1 1 = 1 | entry 1 2 = 10 | weight 0 10 0 = 1 | weight 0 10 1 = 2",
        // 3 by 3 leaves no rest: the CUT is 0, -2 and -1
        "cost 0 99 = 1 | rule 0 7 = 0 | factor 0 0 3 = 100 | factor 0 1 3 = 100 | solve 0 = 2 | entry 0 0 = 3 | entry 0 1 = -1 | solve 1 = 2 | entry -2 0 = 0 | entry -2 1 = 20 | amount 1 0 = 5 | amount 1 1 = 2");
    holds(11, "its OWNER is its LEFT (CUTS are numbered from 0)",
        "size 1 = 2 | rule 0 1 = 0 | factor 0 0 2 = 100 | solve 0 = 2 | count 2 = 1 | solve 1 = 1 | count 2 = 2 | entry -2 0 = 20 | entry 1 2 = 10",
        Problems.TWELVE + "solve 11 = 2 | count 2 = 14 | entry -2 0 = 30 | solve 12 = 1 | count 2 = 15 | entry -2 2 = 31 | entry 14 4 = 12 | entry 4 4 = 20");
    holds(16, "ENTRY by DIVISOR (rounded down) times, together, no more than RIGHT by DIVISOR (rounded down)",
        "size 1 = 2 | rule 0 15 = 0 | factor 0 0 2 = 100 | solve 1 = 1 | cut 0 0 = -1 | cut 0 1 = -8",
        Problems.HALF + "solve 1 = 0 | cut 0 0 = -1 | cut 0 1 = -1",
        // 3a + 3b: b owns a ROW, a its COLUMN with ENTRY 3 by 3: once
        "cost 0 99 = 1 | rule 0 7 = 0 | factor 0 0 3 = 100 | factor 0 1 3 = 100 | solve 1 = 2 | cut 0 0 = -2 | cut 0 1 = -2 | cut 0 2 = -5");
  }

  private static void entries() throws Exception {
    String sentence = "ROW row (0 on): ENTRY of COLUMN column; column n: RIGHT, n and 1: its OWNER. Row -1: RISE; column n: BASE, n and 1: DIVISOR. Row -2: OWNER of the COLUMN. NO: there is no TABLE, no such.";
    for (int n = 1; n <= 5; n++) {
      int last = n - 1;
      holds(12, sentence, "size " + n + " = 2 | cost " + last + " 7 = 1 | rule 1 6 = 0 | factor 0 " + last + " 4 = 100 | entry 0 0 = NO | entry -1 0 = NO | entry -2 0 = NO | solve 0 = 1 | "
          + "entry -2 -1 = NO | entry -2 0 = 0 | entry -2 " + last + " = " + last + " | entry -2 " + n + " = NO | entry -2 " + (n + 1) + " = NO | "
          + "entry -1 -1 = NO | entry -1 " + last + " = 7 | entry -1 " + n + " = 0 | entry -1 " + (n + 1) + " = 1 | entry -1 " + (n + 2) + " = NO | "
          + "entry 0 -1 = NO | entry 0 " + last + " = 4 | entry 0 " + n + " = 6 | entry 0 " + (n + 1) + " = 10 | entry 0 " + (n + 2) + " = NO | "
          + "entry 1 0 = NO | entry -3 0 = NO | entry LOW 0 = NO | entry HIGH 0 = NO | entry 0 LOW = NO | entry 0 HIGH = NO");
    }
    holds(12, sentence, "solve 0 = 1 | entry 0 0 = NO | entry 0 3 = NO | entry -1 3 = 1", EIGHT_AND_TWELVE + "solve 12 = 2 | count 2 = 20 | entry 19 6 = 30 | entry 20 0 = NO | entry 20 6 = NO",
        Problems.SMALL + "solve 1 = 1 | count 2 = 3 | entry 2 3 = 11 | entry 3 3 = NO | solve 0 = 2 | entry 1 3 = 0 | entry 2 3 = NO");
  }

  private static void fractions() throws Exception {
    holds(13, "part 0 above, 1 below the line, in lowest terms. NO: no TABLE, pack, part.",
        Problems.SMALL + "amount 0 0 = NO | solve 0 = 2 | amount 0 0 = 1 | amount 0 1 = 2 | amount 0 -1 = NO | amount 0 2 = NO | amount 0 LOW = NO | amount 0 HIGH = NO | amount -1 0 = NO | amount 2 0 = NO | "
        + "amount LOW 0 = NO | amount HIGH 0 = NO | entry 1 2 = 1 | amount 1 0 = 2 | amount 1 1 = 1",
        // 6 by 4 is 3 by 2, 8 by 4 is 2 by 1
        "size 1 = 2 | rule 0 6 = 0 | factor 0 0 4 = 100 | solve 0 = 2 | amount 0 0 = 3 | amount 0 1 = 2 | bound 0 8 = 1006 | solve 0 = 1 | amount 0 0 = 2 | amount 0 1 = 1",
        // below 0, where there is NO MIX: -6 by 4
        Problems.SMALL + "factor 1 1 2 = 101 | bound 1 -3 = 1002 | solve 0 = 0 | entry 0 2 = -6 | entry -1 3 = 4 | amount 1 0 = -3 | amount 1 1 = 2");
    holds(13, "What owns a COLUMN is 0",
        "cost 1 9 = 1 | rule 0 5 = 0 | factor 0 0 2 = 100 | factor 0 1 3 = 100 | solve 0 = 2 | entry -2 1 = 1 | amount 1 0 = 0 | amount 1 1 = 1", "solve 0 = 1 | amount 0 0 = 0 | amount 0 1 = 1");
    holds(14, "VALUE; part likewise. NO.",
        "value 0 = NO | value 1 = NO | solve 0 = 1 | value 0 = 0 | value 1 = 1 | value -1 = NO | value 2 = NO | value LOW = NO | value HIGH = NO",
        "size 1 = 2 | cost 0 6 = 1 | rule 0 3 = 0 | factor 0 0 4 = 100 | solve 0 = 2 | entry -1 1 = 18 | entry -1 2 = 4 | value 0 = 9 | value 1 = 2");
    holds(15, "PRICE; part likewise. NO: no TABLE, rule, part.",
        "price 0 0 = NO | rule 0 3 = 0 | factor 0 0 2 = 100 | price 0 0 = NO | solve 0 = 2 | price 0 0 = 1 | price 0 1 = 2 | price 0 -1 = NO | price 0 2 = NO | price -1 0 = NO | price 1 0 = NO | "
        + "price LOW 0 = NO | price HIGH 0 = NO | rule 0 0 = 1 | price 0 0 = NO | solve 0 = 2 | price 1 0 = 0 | price 2 0 = NO",
        EIGHT_AND_TWELVE + "solve 0 = 2 | price 7 0 = 0 | price 7 1 = 1 | price 8 0 = NO");
    holds(15, "(0 by 1, if it owns a ROW)", "rule 0 0 = 0 | factor 0 0 2 = 100 | solve 0 = 1 | price 0 0 = 0 | price 0 1 = 1 | bound 0 1 = 1000 | solve 0 = 2 | price 0 0 = 1 | price 0 1 = 2",
        // of a COLUMN whose RISE is 0, too; and in lowest terms
        "cost 0 0 = 1 | rule 0 1 = 0 | factor 0 0 2 = 100 | solve 0 = 2 | price 0 0 = 0 | price 0 1 = 1 | cost 0 6 = 0 | cost 1 99 = 1 | factor 0 0 4 = 102 | solve 0 = 2 | price 0 0 = 3 | price 0 1 = 2");
  }

  private static void cutsAndWeights() throws Exception {
    holds(16, "POINTS of a PACK in a CUT (pack n: LIMIT). NO: no such CUT, PACK.",
        Problems.SMALL + "cut 0 0 = NO | solve 0 = 2 | cut 0 0 = NO | solve 1 = 1 | cut 0 -1 = NO | cut 0 0 = -1 | cut 0 1 = -1 | cut 0 2 = -3 | cut 0 3 = NO | cut -1 0 = NO | cut 1 0 = NO | cut LOW 0 = NO | "
        + "cut HIGH 0 = NO | cut 0 LOW = NO | cut 0 HIGH = NO | solve 0 = 2 | cut 0 0 = NO",
        Problems.DEEP + "solve 12 = 2 | cut 11 5 = -90 | cut 11 6 = NO | cut 12 0 = NO");
    holds(17, "WEIGHT of a LEFT (10 and a RULE, 20 and an earlier CUT) in a CUT; part likewise. NO: no such CUT, LEFT, part.",
        Problems.SMALL + "weight 0 10 0 = NO | solve 0 = 2 | weight 0 10 0 = NO | solve 1 = 1 | weight 0 9 0 = NO | weight 0 10 0 = 1 | weight 0 11 0 = 1 | weight 0 12 0 = NO | weight 0 19 0 = NO | "
        + "weight 0 20 0 = NO | weight 0 21 0 = NO | weight 0 0 0 = NO | weight 0 LOW 0 = NO | weight 0 HIGH 0 = NO | weight 0 10 -1 = NO | weight 0 10 2 = NO | weight -1 10 0 = NO | weight 1 10 0 = NO | "
        + "weight LOW 10 0 = NO | weight HIGH 10 0 = NO",
        Problems.TWELVE + "solve 12 = 1 | weight 1 19 0 = NO | weight 1 20 0 = 12 | weight 1 20 1 = 13 | weight 1 21 0 = NO | weight 11 30 0 = 1 | weight 11 31 0 = NO | weight 11 12 1 = 2 | weight 11 13 1 = NO | weight 12 10 0 = NO",
        EIGHT_AND_TWELVE + "solve 12 = 2 | weight 11 17 0 = 0 | weight 11 18 0 = NO | weight 11 30 0 = 107 | weight 11 30 1 = 112 | weight 11 31 0 = NO");
    holds(17, "ENTRY modulo DIVISOR, by DIVISOR; of others 0.",
        // an ENTRY below 0 counts from the other end; a LEFT that owned a ROW has 0 by 1
        Problems.HALF + "solve 1 = 0 | weight 0 10 0 = 1 | weight 0 10 1 = 2 | weight 0 11 0 = 0 | weight 0 11 1 = 1",
        "size 1 = 2 | rule 0 2 = 0 | factor 0 0 6 = 100 | solve 1 = 2 | weight 0 10 0 = 5 | weight 0 10 1 = 6",
        "size 1 = 2 | rule 1 -2 = 0 | factor 0 0 -6 = 100 | solve 1 = 2 | weight 0 10 0 = 5 | weight 0 10 1 = 6 | cut 0 0 = -5 | cut 0 1 = -2",
        // those of an earlier TABLE's CUT are no more
        "size 1 = 2 | rule 0 1 = 0 | factor 0 0 2 = 100 | rule 0 0 = 1 | solve 1 = 1 | weight 0 10 1 = 2 | weight 0 11 1 = 1 | factor 0 0 0 = 102 | bound 0 0 = 1001 | factor 1 0 2 = 100 | bound 1 1 = 1000 | "
        + "solve 1 = 1 | weight 0 10 0 = 0 | weight 0 10 1 = 1 | weight 0 11 0 = 1 | weight 0 11 1 = 2",
        // ENTRIES 7 and -3, DIVISOR 6
        Problems.TWELVE + "solve 11 = 2 | entry 2 0 = 7 | entry 2 2 = -3 | entry -1 4 = 6 | solve 12 = 1 | weight 11 30 0 = 1 | weight 11 30 1 = 6 | weight 11 12 0 = 1 | weight 11 12 1 = 2 | weight 11 11 0 = 0 | weight 11 11 1 = 1");
    holds(18, "Whether a CUT is PROVED: 1, 0. NONE.",
        Problems.SMALL + "proved 0 = -1 | solve 0 = 2 | proved 0 = -1 | solve 1 = 1 | proved -1 = -1 | proved 0 = 1 | proved 1 = -1 | proved LOW = -1 | proved HIGH = -1 | bound 0 7 = 1007 | proved 0 = -1",
        Problems.TWELVE + "solve 12 = 1 | proved 0 = 1 | proved 11 = 1 | proved 12 = -1");
  }
}
