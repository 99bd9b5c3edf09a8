/**
 * Sentences that name a boundary case, each with a test of its own: CUTS BY HAND, THE BOX (promises 19 to 27).
 * LOST is always -5, where it isn't NONE: HANDS are 0 or more, what is rounded is rounded down, and all CUTS are PROVED.
 */
public final class BoundaryBoxTest {
  private static final String EIGHT = "rule 0 0 = 0 | rule 1 0 = 1 | rule 0 0 = 2 | rule 1 0 = 3 | rule 0 0 = 4 | rule 1 0 = 5 | rule 0 0 = 6 | rule 1 0 = 7 | ";
  /** a is 2 at least and 3 at most. */
  private static final String BETWEEN = "rule 0 2 = 0 | factor 0 0 1 = 100 | rule 1 3 = 1 | factor 1 0 1 = 100 | ";

  public static void main(String[] args) throws Exception {
    hands();
    pointsByHand();
    bites();
    boxes();
    codes();
    order();
    obeying();
    lost();
    Runs.end("boundaries of cuts by hand, the box", 19, 27);
  }

  private static void holds(int promise, String sentence, String... runs) throws Exception {
    Runs.holds(promise, sentence, runs);
  }

  private static void hands() throws Exception {
    holds(19, "for each RULE a HAND (0 .. 9; 0 at first)",
        "rule 0 5 = 0 | hand 0 -1 = -2 | hand 0 10 = -2 | hand 0 LOW = -2 | hand 0 HIGH = -2 | hand 0 9 = 0 | hand 0 10 = -2 | hand 0 -1 = -2 | hand 0 0 = 9 | hand 0 0 = 0");
    holds(19, "HAND of a RULE becomes v: what it was. NONE; BAD.",
        "hand 0 0 = -1 | hand 0 10 = -1 | rule 0 5 = 0 | hand -1 5 = -1 | hand 1 5 = -1 | hand LOW 5 = -1 | hand HIGH 5 = -1 | hand 1 10 = -1 | hand -1 -1 = -1 | hand 0 0 = 0",
        EIGHT + "hand 7 9 = 0 | hand 8 9 = -1 | hand 7 1 = 9");
    holds(20, "BY (1 .. 10; 1 at first)",
        "by 0 = -2 | by 11 = -2 | by -1 = -2 | by LOW = -2 | by HIGH = -2 | by 10 = 1 | by 0 = -2 | by 11 = -2 | by 1 = 10 | by 0 = -2 | by 1 = 1");
  }

  private static void pointsByHand() throws Exception {
    holds(21, "POINTS of each PACK: those of RULES (as told above) times HANDS, together, by BY, rounded down; LIMIT likewise.",
        "points 0 = 0 | points 2 = 0 | by 10 = 1 | points 0 = 0 | points 2 = 0",
        // -1 and 1 by 2, by 10: down, not towards 0
        "rule 0 1 = 0 | factor 0 0 1 = 100 | factor 0 1 -1 = 100 | hand 0 1 = 0 | points 0 = -1 | points 1 = 1 | points 2 = -1 | by 2 = 1 | points 0 = -1 | points 1 = 0 | points 2 = -1 | "
        + "by 10 = 2 | points 0 = -1 | points 1 = 0 | points 2 = -1 | bound 0 -1 = 1001 | points 2 = 0",
        // 9 times 9 and 10: by 10 and 9 without a rest, and beside that
        "size 1 = 2 | rule 1 9 = 0 | factor 0 0 9 = 100 | hand 0 9 = 0 | by 9 = 1 | points 0 = 9 | points 1 = 9 | by 10 = 9 | points 0 = 8 | bound 0 10 = 1009 | points 1 = 9 | bound 0 11 = 1010 | points 1 = 9 | "
        + "bound 0 -10 = 1011 | points 1 = -9 | bound 0 -11 = 990 | points 1 = -10");
    StringBuilder all = new StringBuilder();
    for (int r = 0; r < 8; r++) {
      all.append("rule 0 999 = ").append(r).append(" | factor ").append(r).append(" 0 9 = 100 | factor ").append(r).append(" 1 -9 = 100 | hand ").append(r).append(" 9 = 0 | ");
    }
    holds(21, "POINTS of a PACK in the CUT BY HAND (pack n: LIMIT). NO.",
        all + "points 0 = -648 | points 1 = 648 | points 2 = -71928 | points 3 = NO | points -1 = NO | points LOW = NO | points HIGH = NO",
        "size 1 = 2 | points 1 = 0 | points 2 = NO | size 5 = 1 | points 5 = 0 | points 6 = NO");
  }

  private static void bites() throws Exception {
    String parted = "size 1 = 2 | rule 0 5 = 0 | factor 0 0 2 = 100 | hand 0 1 = 0 | ";
    holds(22, "It BITES, if THE TABLE's amounts break it.",
        // -2a is -5 at most: 5 by 2 is just there; -a is -3 at most: it isn't
        parted + "solve 0 = 2 | by 1 = 1 | bites = 0 | by 2 = 1 | bites = 1 | solve 1 = 1 | amount 0 0 = 3 | bites = 0",
        parted + "solve 0 = 2 | hand 0 0 = 1 | bites = 0 | by 10 = 1 | bites = 0",
        "rule 1 3 = 0 | factor 0 0 1 = 100 | rule 0 3 = 1 | factor 1 0 1 = 100 | solve 0 = 1 | hand 0 1 = 0 | bites = 0 | hand 1 9 = 0 | bites = 0",
        // amounts that obey no RULE, where there is NO MIX
        "rule 0 1 = 0 | hand 0 1 = 0 | solve 0 = 0 | bites = 1");
    holds(22, "STATE: there is no TABLE.", "bites = -3 | " + parted + "bites = -3 | solve 0 = 2 | bites = 0 | cost 0 1 = 1 | bites = -3", "rule 0 1 = 0 | solve 0 = 0 | bites = 0 | image = 1 | undo = 1 | bites = -3");
  }

  private static void boxes() throws Exception {
    holds(23, "(BOX 0 .. 6; 4 at first)",
        "count 9 = 4 | box -1 = -2 | box 7 = -2 | box LOW = -2 | box HIGH = -2 | count 9 = 4 | box 6 = 4 | box 7 = -2 | box 0 = 6 | box -1 = -2 | count 9 = 0 | box 0 = 0");
    holds(25, "THE BOX: MIXES of 0 .. BOX of each PACK",
        "many 0 = 25 | box 0 = 4 | many 0 = 1 | nth 0 = 0 | nth 1 = -5 | box 1 = 0 | many 0 = 4 | nth 3 = 11 | box 6 = 1 | many 0 = 49",
        "size 1 = 2 | many 0 = 5 | nth 4 = 4 | nth 5 = -5 | box 6 = 4 | many 0 = 7 | nth 6 = 6 | nth 7 = -5",
        "size 5 = 2 | many 0 = 3125 | box 6 = 4 | many 0 = 16807 | rule 0 30 = 0 | factor 0 0 1 = 100 | factor 0 1 1 = 100 | factor 0 2 1 = 100 | factor 0 3 1 = 100 | factor 0 4 1 = 100 | many 0 = 1 | nth 0 = 66666 | "
        + "nth 1 = -5 | bound 0 31 = 1030 | many 0 = 0 | nth 0 = -5 | many 1 = 16807");
  }

  private static void codes() throws Exception {
    int top = 1;
    for (int n = 1; n <= 5; n++) {
      top *= 10;
      int most = top - 1;
      holds(26, "MIXES are told by CODES: digits, the first PACK's first (of n PACKS n digits, 0 .. 9 each).",
          "size " + n + " = 2 | breaks -1 = -2 | breaks 0 = -5 | breaks " + most + " = -5 | breaks " + top + " = -2 | breaks LOW = -2 | breaks HIGH = -2 | offer -1 0 = -2 | offer " + top + " 0 = -2 | offer 0 0 = -5 | "
          + "offer " + most + " 0 = -5 | offered 0 0 = 0 | offered 1 0 = " + most + " | offered 1 2 = " + 9 * n,
          // the first PACK's digit is the first, the last's the last
          "size " + n + " = 2 | rule 1 0 = 0 | factor 0 0 1 = 100 | breaks " + (top / 10 - 1) + " = -5 | breaks " + top / 10 + " = 0",
          "size " + n + " = 2 | rule 1 8 = 0 | factor 0 " + (n - 1) + " 1 = 100 | breaks " + most + " = 0 | breaks " + (most - 1) + " = -5");
    }
  }

  private static void order() throws Exception {
    // of 25 MIXES 20, 19 and none OBEY
    String twenty = "rule 0 1 = 0 | factor 0 0 1 = 100 | ";
    holds(24, "The k-th (0: the first; 0 .. 19) in ORDER of MIXES of THE BOX that OBEY: its CODE; -5: there is none such. BAD.",
        "nth -1 = -2 | nth 20 = -2 | nth LOW = -2 | nth HIGH = -2 | nth 0 = 0 | nth 18 = 41 | nth 19 = 24",
        twenty + "many 0 = 20 | nth 0 = 10 | nth 18 = 43 | nth 19 = 44 | nth 20 = -2",
        twenty + "rule 1 7 = 1 | factor 1 0 1 = 100 | factor 1 1 1 = 100 | many 0 = 19 | nth 17 = 34 | nth 18 = 43 | nth 19 = -5 | nth 20 = -2",
        twenty + "rule 1 0 = 1 | factor 1 0 1 = 100 | many 0 = 0 | nth 0 = -5 | nth 19 = -5 | nth -1 = -2");
    holds(24, "ORDER of MIXES: by their COST, of like ones by CODES.",
        "nth 0 = 0 | nth 1 = 1 | nth 2 = 10 | nth 3 = 2 | nth 4 = 11 | nth 5 = 20 | nth 6 = 3", "cost 0 0 = 1 | cost 1 0 = 1 | nth 0 = 0 | nth 4 = 4 | nth 5 = 10 | nth 19 = 34",
        "box 6 = 4 | nth 15 = 5 | nth 16 = 14 | nth 17 = 23 | nth 18 = 32 | nth 19 = 41 | nth 20 = -2",
        "cost 0 99 = 1 | nth 4 = 4 | nth 5 = 10 | cost 1 99 = 1 | nth 1 = 1 | nth 2 = 10 | cost 0 98 = 99 | nth 1 = 10 | nth 2 = 1");
  }

  private static void obeying() throws Exception {
    holds(26, "A MIX of whole numbers OBEYS, if no LEFT is below 0.",
        BETWEEN + "breaks 10 = 0 | breaks 20 = -5 | breaks 30 = -5 | breaks 40 = 1 | breaks 0 = 0 | breaks 99 = 1",
        "rule 0 0 = 0 | rule 1 0 = 1 | breaks 99 = -5 | bound 0 1 = 1000 | breaks 99 = 0 | bound 0 0 = 1001 | bound 1 -1 = 1000 | breaks 99 = 1", "breaks 0 = -5 | breaks 99 = -5");
    holds(26, "The first RULE that a MIX breaks; -5: it OBEYS. BAD: no such CODE.",
        "rule 1 -1 = 0 | rule 1 -1 = 1 | breaks 0 = 0 | bound 0 0 = 999 | breaks 0 = 1 | bound 1 0 = 999 | breaks 0 = -5 | breaks 100 = -2",
        EIGHT + "breaks 0 = -5 | bound 7 -1 = 1000 | breaks 0 = 7 | bound 6 1 = 1000 | breaks 0 = 6 | breaks -1 = -2");
    holds(25, "what 0 OBEY, 1 do not OBEY, but all RULES but one. NONE.",
        "many -1 = -1 | many 2 = -1 | many LOW = -1 | many HIGH = -1 | many 0 = 25 | many 1 = 0", BETWEEN + "many 0 = 10 | many 1 = 15 | rule 0 2 = 2 | factor 2 0 1 = 100 | many 0 = 10 | many 1 = 5 | rule 1 -1 = 3 | many 0 = 0 | many 1 = 10",
        // two RULES broken at once count for neither
        "rule 0 1 = 0 | rule 0 1 = 1 | many 0 = 0 | many 1 = 0 | less = 1 | many 1 = 25");
  }

  private static void lost() throws Exception {
    holds(27, "LOST by a CUT (-1: the CUT BY HAND): its CODE; -5: none. NONE: no such CUT.",
        "lost -1 = -5 | lost 0 = -1 | lost -2 = -1 | lost LOW = -1 | lost HIGH = -1 | solve 12 = 1 | lost 0 = -1 | lost -1 = -5",
        Problems.SMALL + "solve 0 = 2 | lost 0 = -1 | solve 1 = 1 | lost 0 = -5 | lost 1 = -1 | lost -2 = -1 | hand 0 9 = 0 | hand 1 9 = 0 | by 10 = 1 | box 6 = 4 | lost -1 = -5 | bound 0 7 = 1007 | lost 0 = -1 | lost -1 = -5",
        Problems.TWELVE + "solve 12 = 1 | lost 11 = -5 | lost 12 = -1");
    // of MIXES that OBEY alone: the CUT BY HAND is the RULE itself, and 15 of 25 break both
    holds(27, "of MIXES of THE BOX that OBEY those that break it", "rule 1 1 = 0 | factor 0 0 1 = 100 | hand 0 1 = 0 | many 1 = 15 | lost -1 = -5", "rule 0 99 = 0 | hand 0 9 = 0 | many 0 = 0 | lost -1 = -5");
  }
}
