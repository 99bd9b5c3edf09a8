/** Problems told as calls, for more than one of the tests. */
final class Problems {
  /** a costs 3, b 4; 2a + 3b are 7 at least, b 2 at most: by fractions 19 by 2, whole 10. */
  static final String SMALL = "cost 0 3 = 1 | cost 1 4 = 1 | rule 0 7 = 0 | factor 0 0 2 = 100 | "
      + "factor 0 1 3 = 100 | rule 1 2 = 1 | factor 1 1 1 = 100 | ";
  /** 2a is 1 at least and 1 at most: a mix of fractions, but none of whole numbers. */
  static final String HALF = "size 1 = 2 | rule 0 1 = 0 | factor 0 0 2 = 100 | rule 1 1 = 1 | factor 1 0 2 = 100 | ";
  /** Not whole behind 12 CUTS. */
  static final String DEEP = Runs.problem(new int[] {13, 17, 11, 19, 7}, new int[][] {
      {0, 97, 9, 7, 8, 5, 3}, {0, 83, 2, 9, 3, 7, 5}, {1, 60, 4, 5, 3, 6, 7}, {0, 31, -3, 4, 7, -2, 5}});
  /** Whole by 12 CUTS, and not by 11. */
  static final String TWELVE = Runs.problem(new int[] {75, 9, 4}, new int[][] {{0, -19, 0, 1, 1}, {1, 25, 0, 0, 4}, {0, 21, 7, 0, 2}});
  /** STUCK ahead of any CUT, some number being too large. */
  static final String BIGGER = Runs.problem(new int[] {23, 95, 75, 89, 99}, new int[][] {
      {0, 588, -6, -4, 5, -5, 5}, {0, 999, 8, -2, 2, 4, 8}, {0, 677, 3, 6, 4, 4, -5}, {0, 256, -7, 1, -9, -2, 1},
      {0, 372, 8, -7, 2, 9, -6}});
  private static final int[][] EDGE = {
      {0, 704, 1, 5, -8, 2, 9}, {0, 950, -3, 0, -2, 7, -4}, {0, 756, -7, 4, 9, 0, -6}, {0, 538, 2, -6, 9, -4, -3},
      {0, 577, 3, 1, 0, -3, 1}};
  /** BASE becomes 1000000000 by the last PIVOT. */
  static final String BASE_TAKEN = Runs.problem(new int[] {99, 96, 8, 60, 15}, EDGE);
  /** BASE would become 1000000001 by the fifth PIVOT. */
  static final String BASE_REFUSED = Runs.problem(new int[] {76, 70, 4, 98, 65}, EDGE);
  /** RIGHT of ROW 4 becomes -1000000000 by the last PIVOT. */
  static final String RIGHT_TAKEN = Runs.problem(new int[] {0, 0, 0, 0, 0}, new int[][] {
      {0, 948, -8, 9, 4, 3, -7}, {0, 479, 6, 7, 0, -7, -4}, {1, 1, 5, 9, 8, 9, 7}, {0, 797, -2, 9, -8, 2, 5},
      {0, 272, 5, -8, 3, 9, -9}, {0, 897, 6, -9, 4, 3, 8}});
  /** A RIGHT would become -1000000001 by the fifth PIVOT; no other number is too large. */
  static final String RIGHT_REFUSED = Runs.problem(new int[] {0, 0, 0, 0, 0}, new int[][] {
      {0, 150, 5, 5, -9, -9, 9}, {1, 60, 0, 7, 6, 6, 9}, {0, -52, 5, 9, -7, 9, -4}, {0, 860, 8, -2, 6, 1, 4},
      {0, 763, -8, 8, 7, -8, -4}, {1, -99, 9, 6, 9, -5, 0}});
  /** One number alone is too large: an ENTRY above, an ENTRY below, a RIGHT above, a RISE above. */
  static final String ENTRY_ABOVE = Runs.problem(new int[] {0, 93, 0, 0, 15}, new int[][] {
      {0, 210, -4, 9, 8, -8, 9}, {0, 113, -8, 9, -1, 9, 8}, {1, 337, -8, -9, 8, 3, -9}, {0, 917, 9, -9, 9, 9, 9},
      {0, 241, 5, 9, 4, 0, -9}});
  static final String ENTRY_BELOW = Runs.problem(new int[] {0, 15, 0, 0, 52}, new int[][] {
      {1, 479, 3, -9, 9, 9, -7}, {0, 60, -9, -9, -9, 6, 9}, {0, 407, 8, 9, -8, 7, 9}, {1, 118, -9, 9, -5, 5, -9},
      {1, 386, 9, -5, 5, 5, 6}, {0, 104, 4, 6, -9, 3, -1}, {0, 341, -9, 9, 9, 8, 9}});
  static final String RIGHT_ABOVE = Runs.problem(new int[] {0, 0, 0, 0, 0}, new int[][] {
      {0, 791, -4, 0, 0, -6, 9}, {0, 891, 7, 8, 0, -6, -1}, {0, 757, 6, -3, -1, 8, -1}, {0, 313, 2, -2, -7, 6, -1},
      {1, 427, -5, 5, -6, 9, -4}, {0, 570, 6, -2, -8, 8, 7}});
  static final String RISE_ABOVE = Runs.problem(new int[] {73, 13, 98, 24, 98}, new int[][] {
      {1, 378, 8, 8, 8, 7, -4}, {1, 549, -3, 4, 3, -8, 1}, {0, 267, -9, 8, -7, -8, 8}, {0, 70, -7, 1, -9, 9, 7},
      {1, -65, -6, -1, 9, -2, 2}});
  /** By 60 PIVOTS: WHOLE, not whole, without a MIX; and a 61st would have to follow. */
  static final String SIXTY_WHOLE = Runs.problem(new int[] {0, 0, 0, 0, 0}, new int[][] {
      {0, 0, 5, 0, 0, 0, 8}, {1, 1, 0, 0, -2, 6, 3}, {0, 1, 0, 5, 1, 6, 0}, {1, 0, 7, 0, 5, 0, 0}});
  static final String SIXTY_PARTED = Runs.problem(new int[] {0, 0, 0, 0}, new int[][] {
      {0, 1, 0, 8, -3, -5}, {0, 0, 6, 0, 2, 7}, {0, 1, 9, 5, 9, 4}, {1, 2, 8, -5, 4, 0}});
  static final String SIXTY_NO_MIX = Runs.problem(new int[] {0, 0, 0, 0, 0}, new int[][] {
      {1, 2, 1, -3, 4, 2, 0}, {0, 1, 1, 6, -2, -5, -2}, {0, 1, -5, 2, 1, 2, 0}, {0, 1, -5, -6, 6, 1, -2}});
  static final String SIXTY_STUCK = Runs.problem(new int[] {0, 0, 0, 0, 0}, new int[][] {
      {0, 11, 7, 7, 7, -1, 3}, {0, 16, 9, 0, -9, 4, 6}, {0, 9, 1, -8, 6, 4, 8}, {0, 26, -9, 2, -1, -9, 4},
      {0, 23, 5, -2, 2, 7, 6}});
  /** 39 NODES and an answer; 39 and NO MIX; a 41st would have to come; NODE 2 is STUCK. */
  static final String NODES_ANSWER = Runs.problem(new int[] {1, 2, 1, 1}, new int[][] {
      {0, 25, 8, 8, -3, 1}, {0, 34, 6, 9, -7, -5}, {0, 23, -4, 5, 0, 2}, {0, 66, 3, -8, 7, 3}});
  static final String NODES_NO_MIX = Runs.problem(new int[] {4, 1, 6}, new int[][] {
      {0, 27, 3, 1, 1}, {0, 21, 0, 0, 2}, {0, 8, 1, 0, 1}, {1, 21, 0, 0, 2}, {0, 19, 3, 1, 3}, {0, 9, 0, 1, 2}, {0, 21, 3, 0, 2}});
  static final String NODES_STUCK = Runs.problem(new int[] {87, 90, 55}, new int[][] {{0, 98, 8, 8, 0}});
  static final String NODE_STUCK = Runs.problem(new int[] {60, 12, 1, 83, 22}, new int[][] {
      {0, 595, 9, -7, -7, -2, -2}, {0, 24, 5, -2, 6, 0, -1}, {0, 934, 4, 2, 2, 6, -9}, {0, 226, -1, 2, -7, 7, -8},
      {0, 163, -6, -8, 4, 1, 2}});
  /** The first of two NODES that would come together is STUCK. */
  static final String FIRST_OF_TWO_STUCK = Runs.problem(new int[] {84, 83, 55, 99, 99}, new int[][] {
      {0, 805, 8, 1, 6, -6, 2}, {1, 692, -5, -8, 3, 4, 0}, {0, 37, 0, 0, 3, -5, -1}, {0, 205, 2, 9, -9, 7, -3},
      {0, 469, 2, -7, -8, -1, 6}, {0, 181, 7, -5, 6, -1, -6}, {0, 975, -4, 6, 9, -8, -4}});
  /** VALUES alike; RISES alike of the LEFTS of LEASTS; of those and of MOSTS. */
  static final String EVEN = Runs.problem(new int[] {3, 2, 2}, new int[][] {
      {0, 18, 6, 6, 0}, {0, 10, 9, 3, 9}, {0, 28, 8, 5, 5}});
  static final String LEASTS = Runs.problem(new int[] {1, 3, 2, 3, 3}, new int[][] {
      {0, 10, 8, 2, 7, 2, 4}, {0, 11, 1, 7, 2, 6, 4}, {1, 19, 9, 4, 3, 0, 9}});
  static final String MOSTS = Runs.problem(new int[] {1, 1, 1, 1, 1}, new int[][] {
      {0, 22, 0, 3, 3, 3, 3}, {0, 17, 1, 2, 2, 3, 1}});
  /** REPAIR goes round, all RISES being 0: THE TABLE as at first, and NODE 0; NODE 2 alone. */
  static final String ROUND = Runs.problem(new int[] {0, 0, 0, 0}, new int[][] {
      {1, -14, 0, 6, 1, 0}, {1, 121, -8, -1, 5, 0}, {0, 12, -4, 5, -7, 2}, {0, -17, -8, 7, -5, 9}, {0, 17, 1, -4, 8, 1}, {0, 861, 6, -6, -9, 8}, {1, 12, 1, 3, 1, 0}});
  static final String NODE_ROUND = Runs.problem(new int[] {0, 0, 0, 0}, new int[][] {{0, -6, 0, 7, 4, 7}, {0, 14, 9, 7, 9, 0}, {0, 7, 4, 0, 4, 1}});

  private Problems() { }
}
