/** Each promise by calls whose answers are written out, told as Runs tells them. */
public final class PromiseTest {
  private static final String SMALL = Problems.SMALL, HALF = Problems.HALF, DEEP = Problems.DEEP, BIGGER = Problems.BIGGER;

  public static void main(String[] args) throws Exception {
    packsAndRules();
    texts();
    tables();
    cuts();
    cutsByHand();
    theBox();
    whatWouldBe();
    offersAndPlans();
    judgingAndImages();
    tapes();
    constants();
    Runs.end("promises", 1, 48);
  }

  private static void run(int promise, String calls) throws Exception {
    Runs.run(promise, calls);
  }

  private static String problem(int[] costs, int[][] rules) {
    return Runs.problem(costs, rules);
  }

  private static void packsAndRules() throws Exception {
    run(1, "count 0 = 2 | count 1 = 0 | count 2 = 0 | count 3 = 0 | count 4 = 0 | count 5 = 0 | count 6 = 0 | "
        + "count 7 = 0 | count 8 = 0 | count 9 = 4 | value 0 = NO | cost 0 1 = 1 | cost 1 1 = 1 | by 1 = 1 | "
        + "undo = -3 | ruleOf 0 0 = -1 | bites = -3 | peek 0 0 = NO | points 0 = 0 | points 2 = 0 | points 3 = NO");

    run(2, "size 0 = -2 | size 6 = -2 | size -1 = -2 | size LOW = -2 | size HIGH = -2 | size 5 = 2 | count 0 = 5 | "
        + "cost 4 9 = 1 | size 5 = 5 | cost 4 1 = 1 | size 1 = 5 | cost 1 1 = -1 | cost 0 1 = 1");
    run(2, SMALL + "hand 0 5 = 0 | hand 1 6 = 0 | by 7 = 1 | box 3 = 4 | see 0 1 = 1 | plan 0 0 5 = 1 | offer 11 5 = -5 | "
        + "text a>1 | solve 0 = 2 | size 9 = -2 | value 0 = 19 | count 7 = 1 | size 2 = 2 | value 0 = NO | count 1 = 0 | "
        + "count 5 = 0 | count 6 = 0 | count 7 = 0 | count 8 = 3 | count 9 = 3 | mean 0 = 1 | by 1 = 1 | count 2 = 0 | "
        + "rule 0 1 = 0 | ruleOf 0 2 = 1000 | ruleOf 0 3 = 1000 | hand 0 0 = 0 | rule 0 1 = 1 | hand 1 0 = 0 | "
        + "ruleOf 1 3 = 1000 | read = 1");

    run(3, "cost 0 0 = 1 | cost 0 99 = 0 | cost 0 100 = -2 | cost 0 -1 = -2 | cost 2 5 = -1 | cost -1 5 = -1 | "
        + "cost 2 100 = -1 | cost 0 50 = 99 | cost 1 50 = 1 | mean 0 = 50");
    run(3, "offer 11 5 = -5 | solve 0 = 1 | cost 2 1 = -1 | cost 0 100 = -2 | count 7 = 1 | value 0 = 0 | cost 0 1 = 1 | "
        + "count 7 = 0 | value 0 = NO");

    run(4, "rule -1 0 = -2 | rule 2 0 = -2 | rule 0 -100 = -2 | rule 0 1000 = -2 | rule 0 -99 = 0 | rule 1 999 = 1 | "
        + "ruleOf 0 1 = 901 | ruleOf 1 1 = 1999 | ruleOf 1 0 = 1001 | ruleOf 0 0 = 1000 | rule 0 0 = 2 | rule 0 0 = 3 | "
        + "rule 0 0 = 4 | rule 0 0 = 5 | rule 0 0 = 6 | solve 0 = 1 | rule 0 0 = 7 | value 0 = NO | solve 0 = 1 | "
        + "rule 0 0 = -4 | value 0 = 0 | rule 2 0 = -2 | count 1 = 8");

    run(5, "rule 0 5 = 0 | factor 0 0 9 = 100 | factor 0 0 -9 = 109 | factor 0 0 10 = -2 | factor 0 0 -10 = -2 | "
        + "factor 1 0 1 = -1 | factor -1 0 1 = -1 | factor 0 2 1 = -1 | factor 0 -1 1 = -1 | factor 0 2 10 = -1 | "
        + "factor 0 0 0 = 91 | ruleOf 0 2 = 1000 | factor 0 1 4 = 100 | ruleOf 0 3 = 1004 | solve 0 = 2 | "
        + "factor 0 0 10 = -2 | value 0 = 5 | value 1 = 4 | factor 0 1 4 = 104 | value 0 = NO");
    run(5, "rule 0 5 = 0 | factor 0 0 7 = 100 | less = 0 | rule 0 5 = 0 | ruleOf 0 2 = 1000");

    run(6, "rule 0 5 = 0 | bound 0 999 = 1005 | bound 0 -99 = 1999 | bound 0 -100 = -2 | bound 0 1000 = -2 | bound 1 0 = -1 | "
        + "bound -1 0 = -1 | bound 1 1000 = -1 | bound 0 0 = 901 | solve 0 = 1 | bound 0 1000 = -2 | value 0 = 0 | "
        + "bound 0 0 = 1000 | value 0 = NO");

    run(7, "less = -3 | rule 0 1 = 0 | rule 0 2 = 1 | hand 1 4 = 0 | hand 0 3 = 0 | solve 0 = 0 | less = 1 | value 0 = NO | "
        + "ruleOf 1 0 = -1 | ruleOf 0 1 = 1001 | rule 1 3 = 1 | hand 1 0 = 0 | hand 0 0 = 3 | less = 1 | less = 0 | "
        + "solve 0 = 1 | less = -3 | value 0 = 0");

    run(10, "ruleOf 0 0 = -1 | rule 1 -99 = 0 | factor 0 1 -9 = 100 | ruleOf 0 0 = 1001 | ruleOf 0 1 = 901 | ruleOf 0 2 = 1000 | "
        + "ruleOf 0 3 = 991 | ruleOf 0 4 = -1 | ruleOf 0 -1 = -1 | ruleOf 1 0 = -1 | ruleOf -1 0 = -1 | size 5 = 2 | "
        + "rule 0 0 = 0 | ruleOf 0 6 = 1000 | ruleOf 0 7 = -1");
  }

  private static void texts() throws Exception {
    run(8, "feed -1 = -2 | feed 128 = -2 | feed 0 = 1 | feed 127 = 2 | count 8 = 2 | read = -10 | count 8 = 0 | feed 97 = 1");
    StringBuilder eighty = new StringBuilder();
    for (int k = 1; k <= 80; k++) eighty.append("feed ").append(k == 80 ? 98 : 97 - (k % 2 == 0 ? 54 : 0)).append(" = ").append(k).append(" | ");
    run(8, eighty + "feed 97 = -4 | feed 128 = -2 | count 8 = 80 | read = -28 | feed 97 = 1");

    run(9, "text 2a+3b>7;b<2;-a-b<-0;a>-99 | count 8 = 25 | read = 4 | count 8 = 0 | count 1 = 4 | ruleOf 0 0 = 1000 | "
        + "ruleOf 0 1 = 1007 | ruleOf 0 2 = 1002 | ruleOf 0 3 = 1003 | ruleOf 1 0 = 1001 | ruleOf 1 1 = 1002 | "
        + "ruleOf 1 2 = 1000 | ruleOf 1 3 = 1001 | ruleOf 2 2 = 999 | ruleOf 2 3 = 999 | ruleOf 2 1 = 1000 | ruleOf 3 1 = 901 | "
        + "text b>999 | read = 1 | ruleOf 4 1 = 1999 | text a>1;a>2;a>3;a>4 | read = -4 | count 8 = 0 | count 1 = 5 | "
        + "text a>1;a>2;a>3 | read = 3 | count 1 = 8 | text a>1 | read = -4 | text a>1; | read = -14");
    // FACTORS are added; a number of one to three digits
    run(9, "text 9a-9a-9a+0a+b-3b>007 | read = 1 | ruleOf 0 2 = 991 | ruleOf 0 3 = 998 | ruleOf 0 1 = 1007 | text a<-099 | "
        + "read = 1 | ruleOf 1 1 = 901 | ruleOf 1 0 = 1001 | text a<0 | read = 1 | ruleOf 2 2 = 1001 | ruleOf 2 3 = 1000");
    String[][] faults = {
        {"+a>1", "0"}, {">1", "0"}, {";a>1", "0"}, {"~a>1", "0"}, {"A>1", "0"}, {"c>1", "0"}, {"--a>1", "1"}, {"12a>1", "1"},
        {"aa>1", "1"}, {"a=1", "1"}, {"a1>1", "1"}, {"a+>1", "2"}, {"a+-b>1", "2"}, {"a+2>1", "3"}, {"a>+1", "2"}, {"a>b", "2"},
        {"a>--1", "3"}, {"a>1234", "5"}, {"a>1~", "3"}, {"a>1;;", "4"}, {"a>1;c>1", "4"}, {"a>1>2", "3"}, {"a>1+a", "3"},
        {"a", "1"}, {"-", "1"}, {"2", "1"}, {"a+", "2"}, {"a>", "2"}, {"a>-", "3"}, {"a>1;", "4"}, {"a>1;b", "5"},
        {"9a+a>1", "3"}, {"-9a-a>1", "4"}, {"9a+1a-5a>1", "4"}, {"5a+5b+4a+a>1", "9"}, {"9a+ab>1", "3"},
        {"a>-100", "5"}, {"a>-999", "5"}, {"a>-1000", "5"}, {"a>-0999", "6"}, {"a>-99;c>1", "6"}, {"a>-100;9a+a", "5"},
        {"a>1;a>2;a>3;a>4;a>5", "15"}, {"a>1;a>2;a>3;a>4;", "15"}, {"a>1;a>2;a>3;a>4", "none"}, {"9a+a", "3"}};
    for (String[] f : faults) {
      run(9, "rule 0 0 = 0 | solve 0 = 1 | text " + f[0] + " | read = "
          + (f[1].equals("none") ? 4 : -10 - Integer.parseInt(f[1])) + " | count 8 = 0 | count 1 = " + (f[1].equals("none") ? 5 : 1)
          + " | value 0 = " + (f[1].equals("none") ? "NO" : "0"));
    }
    run(9, "read = -10 | size 1 = 2 | text b>1 | read = -10 | size 5 = 1 | text e+d+c+b+a>1 | read = 1 | ruleOf 0 6 = 1001 | "
        + "text f>1 | read = -10");
    // no room, and no FAULT: the TABLE stays
    run(9, "text a>0;a>0;a>0;a>0 | read = 4 | text a>0;a>0;a>0;a>0 | read = 4 | solve 0 = 1 | text a>1 | read = -4 | value 0 = 0");
  }

  private static void tables() throws Exception {
    run(11, "solve -1 = -2 | solve 13 = -2 | value 0 = NO | solve 12 = 1 | solve 13 = -2 | value 0 = 0 | solve 0 = 1");
    run(11, SMALL + "solve 0 = 2 | count 3 = 0 | count 4 = 2 | solve 1 = 1 | count 3 = 1 | count 2 = 3 | solve 12 = 1 | "
        + "bound 1 -1 = 1002 | solve 0 = 0 | solve 12 = 0");
    run(11, HALF + "solve 0 = 2 | amount 0 0 = 1 | amount 0 1 = 2 | solve 1 = 0 | count 3 = 1 | solve 12 = 0 | branch 0 = -5");
    // STUCK, some number being too large: THE TABLE stays as it is then
    run(11, BIG + "solve 0 = 2 | solve 12 = -6 | count 3 = 7 | judge 0 0 = -3");
    run(11, BIGGER + "solve 0 = -6 | count 4 = 4 | count 2 = 5 | count 3 = 0 | solve 12 = -6 | count 3 = 0");
    // a number of 1000000000 is not too large, one of 1000000001 is; BASE alone, a RIGHT alone
    run(11, Problems.BASE_TAKEN + "solve 0 = 2 | count 4 = 5 | entry -1 5 = 1000000000 | entry -1 6 = 7385");
    run(11, Problems.BASE_REFUSED + "solve 0 = -6 | count 4 = 4");
    run(11, RIGHT_STUCK + "solve 12 = -6");
    // STUCK by 60 PIVOTS
    run(11, Problems.SIXTY_STUCK + "solve 12 = -6 | count 4 = 60");

    run(12, "entry 0 0 = NO | entry -1 0 = NO | entry -2 0 = NO | solve 0 = 1 | entry -1 0 = 1 | entry -1 1 = 1 | entry -1 2 = 0 | "
        + "entry -1 3 = 1 | entry -1 4 = NO | entry -1 -1 = NO | entry -2 0 = 0 | entry -2 1 = 1 | entry -2 2 = NO | "
        + "entry -3 0 = NO | entry 0 0 = NO | entry LOW LOW = NO | entry HIGH HIGH = NO");
    // by hand: a PIVOT by the ROW of 2a + 3b and b (4 by 3 is less than 3 by 2), then by b < 2
    run(12, SMALL + "solve 0 = 2 | entry 0 0 = 2 | entry 0 1 = 0 | entry 0 2 = 4 | entry 0 3 = 1 | entry 0 4 = NO | "
        + "entry 1 0 = -3 | entry 1 1 = -1 | entry 1 2 = 1 | entry 1 3 = 0 | entry 2 0 = NO | entry -2 0 = 11 | entry -2 1 = 10 | "
        + "entry -1 0 = 1 | entry -1 1 = 3 | entry -1 2 = 19 | entry -1 3 = 2 | entry 0 -1 = NO");
    // like RISES by -ENTRY: the least OWNER; like RIGHTS: the first ROW
    run(12, "rule 0 3 = 0 | factor 0 0 2 = 100 | factor 0 1 2 = 100 | rule 0 3 = 1 | factor 1 0 1 = 100 | factor 1 1 3 = 100 | "
        + "solve 0 = 2 | entry -2 0 = 10 | entry -2 1 = 11 | entry 0 0 = -3 | entry 0 1 = 2 | entry 0 2 = 3 | entry 0 3 = 0 | "
        + "entry 1 0 = 1 | entry 1 1 = -2 | entry 1 2 = 3 | entry 1 3 = 1 | entry -1 3 = 4 | entry -1 2 = 6 | entry -1 0 = 2 | "
        + "entry -1 1 = 0");

    run(13, SMALL + "amount 0 0 = NO | solve 0 = 2 | amount 0 0 = 1 | amount 0 1 = 2 | amount 1 0 = 2 | amount 1 1 = 1 | "
        + "amount 2 0 = NO | amount -1 0 = NO | amount 0 2 = NO | amount 0 -1 = NO");
    run(13, "rule 0 -5 = 0 | factor 0 0 -2 = 100 | rule 0 6 = 1 | factor 1 0 4 = 100 | solve 0 = 2 | amount 0 0 = 3 | amount 0 1 = 2 | "
        + "amount 1 0 = 0 | amount 1 1 = 1");
    // amounts below 0 are told too, where REPAIR found NO MIX
    run(13, "size 1 = 2 | rule 0 5 = 0 | factor 0 0 2 = 100 | rule 1 -3 = 1 | factor 1 0 2 = 100 | solve 0 = 0 | amount 0 0 = 5 | "
        + "amount 0 1 = 2 | bound 1 -7 = 997 | bound 0 -4 = 1005 | solve 0 = 0 | amount 0 0 = 0");

    run(14, SMALL + "value 0 = NO | value 1 = NO | solve 0 = 2 | value 0 = 19 | value 1 = 2 | value 2 = NO | value -1 = NO | "
        + "solve 1 = 1 | value 0 = 10 | value 1 = 1");

    run(15, SMALL + "price 0 0 = NO | solve 0 = 2 | price 0 0 = 3 | price 0 1 = 2 | price 1 0 = 1 | price 1 1 = 2 | price 2 0 = NO | "
        + "price -1 0 = NO | price 0 2 = NO | price 0 -1 = NO | bound 1 9 = 1002 | solve 0 = 2 | price 1 0 = 0 | price 1 1 = 1 | "
        + "price 0 0 = 4 | price 0 1 = 3");
  }

  private static void cuts() throws Exception {
    run(16, SMALL + "cut 0 0 = NO | solve 0 = 2 | cut 0 0 = NO | solve 1 = 1 | cut 0 0 = -1 | cut 0 1 = -1 | cut 0 2 = -3 | "
        + "cut 0 3 = NO | cut 0 -1 = NO | cut 1 0 = NO | cut -1 0 = NO | cost 0 3 = 3 | cut 0 0 = NO");
    // by hand: a's ROW is -1, 1 by 2, the CUT's -1, -1; a PIVOT by it makes it -2, 1 by 1, owned by RULE 0's LEFT
    run(16, HALF + "solve 1 = 0 | entry 0 0 = -1 | entry 0 1 = 1 | entry 0 2 = 0 | entry 1 0 = 2 | entry 1 1 = -1 | entry 1 2 = 11 | "
        + "entry 2 0 = -2 | entry 2 1 = 1 | entry 2 2 = 10 | entry -2 0 = 20 | entry -1 2 = 1 | cut 0 0 = -1 | cut 0 1 = -1 | "
        + "weight 0 10 0 = 1 | weight 0 10 1 = 2 | weight 0 11 0 = 0 | weight 0 11 1 = 1");
    run(16, DEEP + "solve 12 = 2 | count 3 = 12 | count 4 = 21 | cut 3 5 = -74 | value 0 = 20232 | value 1 = 107");

    run(17, SMALL + "weight 0 10 0 = NO | solve 1 = 1 | weight 0 10 0 = 1 | weight 0 10 1 = 2 | weight 0 11 0 = 1 | weight 0 11 1 = 2 | "
        + "weight 0 12 0 = NO | weight 0 9 0 = NO | weight 0 20 0 = NO | weight 0 19 0 = NO | weight 1 10 0 = NO | weight -1 10 0 = NO | "
        + "weight 0 10 2 = NO | weight 0 10 -1 = NO");
    run(17, DEEP + "solve 12 = 2 | weight 3 22 0 = 37 | weight 3 22 1 = 56 | weight 3 23 0 = NO | weight 3 20 1 = 1 | weight 3 14 0 = NO | "
        + "weight 3 13 0 = 0 | weight 3 13 1 = 1 | weight 12 10 0 = NO | weight 11 30 0 = 107 | weight 11 30 1 = 112 | weight 11 31 0 = NO");

    // WEIGHTS of an earlier TABLE are no more
    run(17, DEEP + "solve 12 = 2 | less = 3 | less = 2 | solve 1 = 2 | weight 0 10 1 = 31 | weight 0 11 1 = 31 | size 5 = 5 | rule 0 1 = 0 | factor 0 0 2 = 100 | "
        + "rule 0 0 = 1 | solve 1 = 1 | weight 0 10 0 = 1 | weight 0 10 1 = 2 | weight 0 11 0 = 0 | weight 0 11 1 = 1 | proved 0 = 1 | "
        + "factor 0 0 0 = 102 | bound 0 0 = 1001 | factor 1 0 2 = 100 | bound 1 1 = 1000 | solve 1 = 1 | weight 0 10 0 = 0 | weight 0 10 1 = 1 | weight 0 11 0 = 1 | weight 0 11 1 = 2");
    run(18, SMALL + "proved 0 = -1 | solve 0 = 2 | proved 0 = -1 | solve 1 = 1 | proved 0 = 1 | proved 1 = -1 | proved -1 = -1 | "
        + "cost 0 3 = 3 | proved 0 = -1");
    run(18, DEEP + "solve 12 = 2 | proved 0 = 1 | proved 1 = 1 | proved 11 = 1 | proved 12 = -1");
  }

  private static void cutsByHand() throws Exception {
    run(19, "hand 0 1 = -1 | rule 0 5 = 0 | hand 0 9 = 0 | hand 0 10 = -2 | hand 0 -1 = -2 | hand 1 10 = -1 | hand -1 0 = -1 | "
        + "solve 0 = 0 | hand 0 2 = 9 | value 0 = 0 | hand 0 0 = 2");
    run(20, "by 0 = -2 | by 11 = -2 | by 10 = 1 | by 1 = 10 | solve 0 = 1 | by 3 = 1 | value 0 = 0");
    run(21, SMALL + "points 0 = 0 | points 2 = 0 | hand 0 3 = 0 | hand 1 5 = 0 | points 0 = -6 | points 1 = -4 | points 2 = -11 | "
        + "by 4 = 1 | points 0 = -2 | points 1 = -1 | points 2 = -3 | points 3 = NO | points -1 = NO | by 3 = 4 | points 0 = -2 | "
        + "points 1 = -2 | points 2 = -4 | hand 0 0 = 3 | points 0 = 0 | points 1 = 1 | points 2 = 3");
    run(22, "size 1 = 2 | bites = -3 | rule 0 5 = 0 | factor 0 0 2 = 100 | hand 0 1 = 0 | by 2 = 1 | bites = -3 | solve 0 = 2 | bites = 1 | "
        + "by 1 = 2 | bites = 0 | hand 0 0 = 1 | bites = 0 | hand 0 1 = 0 | by 2 = 1 | bites = 1 | solve 1 = 1 | bites = 0 | bound 0 5 = 1005 | "
        + "bites = -3");
  }

  private static void theBox() throws Exception {
    run(23, "box -1 = -2 | box 7 = -2 | box 0 = 4 | box 6 = 0 | many 0 = 49 | solve 0 = 1 | box 1 = 6 | value 0 = 0 | many 0 = 4 | "
        + "count 9 = 1 | box 0 = 1 | many 0 = 1 | nth 0 = 0 | nth 1 = -5");
    run(24, SMALL + "nth 0 = 21 | nth 1 = 12 | nth 2 = 40 | nth 3 = 31 | nth 4 = 22 | nth 5 = 41 | nth 6 = 32 | nth 7 = 42 | nth 8 = -5 | "
        + "nth 19 = -5 | nth 20 = -2 | nth -1 = -2 | box 1 = 4 | nth 0 = -5");
    // 0 costs: by CODES alone
    run(24, "cost 0 0 = 1 | cost 1 0 = 1 | nth 0 = 0 | nth 1 = 1 | nth 5 = 10 | nth 19 = 34");
    run(24, "size 5 = 2 | box 6 = 4 | cost 4 0 = 1 | nth 0 = 0 | nth 6 = 6 | nth 7 = 10 | nth 19 = 105");
    run(24, "size 4 = 2 | box 1 = 4 | cost 0 0 = 1 | cost 1 9 = 1 | cost 2 3 = 1 | cost 3 2 = 1 | nth 1 = 1000 | nth 2 = 1 | nth 3 = 1001 | nth 4 = 10 | "
        + "nth 5 = 1010 | nth 6 = 11 | nth 8 = 100 | nth 15 = 1111 | nth 16 = -5");
    run(24, "size 5 = 2 | box 1 = 4 | rule 0 1 = 0 | factor 0 0 1 = 100 | nth 0 = 10000 | nth 1 = 10001 | rule 0 1 = 1 | factor 1 1 1 = 100 | nth 0 = 11000");
    run(25, SMALL + "many 0 = 8 | many 1 = 17 | many 2 = -1 | many -1 = -1 | rule 0 9 = 2 | many 0 = 0 | many 1 = 8 | box 6 = 4 | many 1 = 14");
    run(26, SMALL + "breaks 0 = 0 | breaks 21 = -5 | breaks 99 = 1 | breaks 3 = 1 | breaks 100 = -2 | breaks -1 = -2 | breaks 92 = -5 | "
        + "breaks 40 = -5 | breaks 30 = 0 | size 1 = 2 | breaks 9 = -5 | breaks 10 = -2 | size 5 = 1 | breaks 99999 = -5 | breaks 100000 = -2 | "
        + "rule 1 8 = 0 | factor 0 4 1 = 100 | breaks 99999 = 0 | breaks 99998 = -5 | rule 0 9 = 1 | factor 1 0 1 = 100 | breaks 8 = 1");
    run(26, "size 4 = 2 | rule 1 3 = 0 | factor 0 0 1 = 100 | rule 1 4 = 1 | factor 1 1 1 = 100 | rule 1 5 = 2 | factor 2 2 1 = 100 | rule 1 6 = 3 | "
        + "factor 3 3 1 = 100 | breaks 3456 = -5 | breaks 3457 = 3 | breaks 3466 = 2 | breaks 3556 = 1 | breaks 4456 = 0 | breaks 9999 = 0 | breaks 10000 = -2");
    // a CUT loses no MIX that OBEYS, and one by HAND doesn't either: HANDS are 0 or more, and what is rounded is rounded down
    run(27, SMALL + "lost 0 = -1 | solve 1 = 1 | lost 0 = -5 | lost 1 = -1 | lost -2 = -1 | lost -1 = -5 | hand 0 1 = 0 | lost -1 = -5 | "
        + "by 2 = 1 | lost -1 = -5 | cost 0 3 = 3 | lost 0 = -1 | lost -1 = -5");
    run(27, "rule 1 3 = 0 | factor 0 0 3 = 100 | factor 0 1 -5 = 100 | hand 0 1 = 0 | by 2 = 1 | lost -1 = -5 | hand 0 3 = 1 | lost -1 = -5");
  }

  private static void whatWouldBe() throws Exception {
    run(28, "branch 0 = 0 | branch 1 = 1 | branch 2 = 0 | branch 3 = 0 | branch 4 = 0 | branch 5 = 0 | branch 6 = -1 | branch -1 = -1");
    run(28, SMALL + "branch 0 = 10 | branch 1 = 5 | branch 2 = 2 | branch 3 = 11 | branch 4 = 2 | branch 5 = 1 | branch 6 = -1 | "
        + "value 0 = NO | solve 0 = 2 | branch 0 = 10 | value 0 = 19 | bound 1 -1 = 1002 | branch 0 = -5 | branch 1 = 1 | branch 2 = -5 | "
        + "branch 3 = 2 | branch 4 = -5 | branch 6 = -1");
    run(28, "size 1 = 2 | cost 0 3 = 1 | rule 0 4 = 0 | factor 0 0 2 = 100 | branch 0 = 6 | branch 1 = 1 | branch 2 = 0 | branch 3 = 1 | branch 4 = 2");
    // of like VALUES the least number; of like RISES the LEFTS of LEASTS by their PACKS, then those of MOSTS
    run(28, Problems.EVEN + "branch 0 = 11 | branch 1 = 21 | branch 2 = 3 | branch 3 = 59");
    run(28, Problems.LEASTS + "branch 0 = 7 | branch 1 = 29 | branch 3 = 142");
    run(28, Problems.MOSTS + "branch 0 = -6 | branch 1 = 40 | branch 3 = 148");
    run(28, NO_LEAST + "branch 0 = 7 | branch 1 = 15 | branch 3 = 63");
    run(28, HALF + "branch 0 = -5 | branch 1 = 3 | branch 3 = 4 | branch 2 = -5 | branch 4 = -5");
    run(28, DEEP + "branch 0 = 192 | branch 1 = 25 | branch 2 = 3 | branch 3 = 132 | branch 4 = 0 | branch 8 = 1 | branch 9 = -1");
    run(28, Problems.NODES_STUCK + "branch 0 = -6 | branch 1 = 40 | branch 2 = -6 | branch 3 = 88 | branch 4 = -6 | branch 7 = -1");
    run(28, BIGGER + "branch 0 = -6 | branch 1 = 1 | branch 3 = 4 | branch 8 = -6");
    run(28, Problems.NODE_STUCK + "branch 0 = -6 | branch 1 = 3 | branch 3 = 20 | solve 12 = 1 | value 0 = 341543");
    run(28, Problems.FIRST_OF_TWO_STUCK + "branch 0 = -6 | branch 1 = 30 | branch 3 = 148");

    run(29, SMALL + "would 0 8 = 11 | would 0 999 = 1498 | would 1 -1 = -5 | would 2 0 = -1 | would -1 0 = -1 | would 2 1000 = -1 | "
        + "would 0 -100 = -2 | would 0 1000 = -2 | would 0 -99 = 0 | ruleOf 0 1 = 1007 | solve 0 = 2 | would 0 8 = 11 | value 0 = 19 | "
        + "count 3 = 0");
    run(29, DEEP + "would 0 98 = -6 | would 0 150 = -5 | would 2 30 = -5");
    run(29, BIGGER + "would 0 588 = -6 | would 0 0 = -6");

    run(30, "see 0 0 = 1 | see 1 999 = 2 | see 2 1 = -1 | see -2 1 = -1 | see 0 -1 = -2 | see 0 1000 = -2 | see 2 1000 = -1 | see 0 1 = 3 | "
        + "see 0 1 = 4 | see 0 1 = 5 | see 0 1 = -4 | see 0 1000 = -2 | count 5 = 5 | see -1 1000 = 0 | count 5 = 0 | see 0 5 = 1");

    run(31, "fits 0 0 = -1 | rule 0 1 = 0 | fits 0 0 = 1 | fits 0 1 = 0 | factor 0 0 3 = 100 | fits 0 0 = 10 | fits 0 1 = 0 | fits 0 2 = -1 | "
        + "fits 0 -1 = -1 | fits 1 0 = -1 | fits -1 0 = -1 | see 0 5 = 1 | fits 0 0 = 1 | fits 0 1 = 15 | see 1 0 = 2 | fits 0 0 = 1 | "
        + "see 1 1 = 3 | fits 0 0 = 0 | fits 0 1 = -5 | ruleOf 0 1 = 1001");
    run(31, "rule 0 1 = 0 | factor 0 0 9 = 100 | see 0 5 = 1 | fits 0 0 = 2 | fits 0 1 = 40 | see -1 0 = 0 | see 0 2 = 1 | fits 0 0 = 2 | fits 0 1 = 10");

    run(31, "size 1 = 2 | rule 0 1 = 0 | factor 0 0 2 = 100 | rule 1 3 = 1 | factor 1 0 1 = 100 | fits 0 0 = 2 | see 0 0 = 1 | fits 0 0 = 1 | fits 0 1 = 0");
    run(32, SMALL + "odds 0 7 4 11 0 = 1 | odds 0 7 4 11 1 = 2 | odds 0 7 4 10 0 = 1 | odds 0 7 4 10 1 = 4 | odds 0 7 4 9 0 = 0 | odds 0 7 4 9 1 = 1 | "
        + "odds 0 7 4 -1 0 = NO | odds 0 7 4 0 0 = 0 | odds 0 7 0 5 0 = NO | odds 0 7 9 5 0 = NO | odds 0 7 8 5 2 = NO | odds 0 7 8 5 -1 = NO | "
        + "odds 2 7 4 5 0 = NO | odds -1 7 4 5 0 = NO | odds 0 -100 4 5 0 = NO | odds 0 1000 1 5 0 = NO | odds 0 999 1 5 1 = 1 | odds 0 999 2 5 0 = NO | "
        + "odds 0 992 8 HIGH 0 = 1 | odds 0 993 8 HIGH 0 = NO | odds 0 -99 8 0 0 = 1 | odds 1 -4 8 99 0 = 1 | odds 1 -4 8 99 1 = 2 | "
        + "ruleOf 0 1 = 1007 | odds 0 HIGH 8 5 0 = NO");

    run(33, "mean 0 = 1 | mean 1 = 1 | mean 2 = NO | mean -1 = NO | cost 0 4 = 1 | mean 0 = 5 | mean 1 = 2 | cost 1 0 = 1 | cost 0 0 = 4 | "
        + "mean 0 = 0 | mean 1 = 1 | size 3 = 2 | cost 2 99 = 1 | mean 0 = 101 | mean 1 = 3");

    run(34, "drawn 1 0 = -2 | drawn 1 5 = -2 | drawn 1 -1 = -2 | cost 0 99 = 1 | rule 0 1 = 0 | drawn 1 4 = 6 | drawn 2 4 = 2091 | drawn -9 1 = 7 | "
        + "count 1 = 1 | ruleOf 0 1 = 1001 | drawn LOW 4 = 42 | drawn HIGH 2 = 7");
    run(34, "cost 0 99 = 1 | rule 1 0 = 0 | rule 1 0 = 1 | rule 1 -1 = 2 | rule 1 0 = 3 | rule 1 0 = 4 | rule 1 -5 = 5 | rule 1 0 = 6 | rule 1 -9 = 7 | "
        + "drawn 1 4 = 6 | drawn 2 4 = 2091 | drawn -9 1 = 7 | count 1 = 8 | ruleOf 0 0 = 1001");
  }

  private static void offersAndPlans() throws Exception {
    run(35, "cost 0 3 = 1 | offer 10 5 = -5 | offer 10 7 = 5 | offer 10 0 = 7 | offer 10 999 = 0 | offer 10 1000 = -2 | offer 10 -1 = -2 | "
        + "offer 100 1 = -2 | offer -1 1 = -2 | offer 99 1 = -5 | offer 0 1 = -5 | count 7 = 3 | cost 0 3 = 3 | count 7 = 0 | offer 10 5 = -5");
    StringBuilder twenty = new StringBuilder();
    for (int k = 20; k > 0; k--) twenty.append("offer ").append(k).append(' ').append(k).append(" = -5 | ");
    run(35, twenty + "count 7 = 20 | offer 21 1 = -4 | offer 20 3 = 20 | offer 21 1000 = -2 | offer 1 3 = 1 | count 7 = 20 | offered 0 0 = 1 | offered 19 0 = 19");

    run(36, "offered 0 0 = -2 | cost 0 3 = 1 | cost 1 3 = 1 | offer 21 5 = -5 | offer 12 6 = -5 | offer 1 7 = -5 | offer 30 8 = -5 | "
        + "offered 0 0 = 1 | offered 1 0 = 12 | offered 2 0 = 21 | offered 3 0 = 30 | offered 0 1 = 7 | offered 2 1 = 5 | offered 0 2 = 3 | "
        + "offered 3 2 = 9 | offered 4 0 = -2 | offered -1 0 = -2 | offered 0 3 = -1 | offered 0 -1 = -1 | offered 9 3 = -1");

    run(36, "size 5 = 2 | cost 0 99 = 1 | cost 1 98 = 1 | cost 2 97 = 1 | cost 3 96 = 1 | cost 4 95 = 1 | offer 99999 1 = -5 | offer 98765 2 = -5 | "
        + "offer 10000 3 = -5 | offer 1000 4 = -5 | offer 100 5 = -5 | offered 0 0 = 100 | offered 0 2 = 97 | offered 1 2 = 98 | offered 2 2 = 99 | "
        + "offered 3 0 = 98765 | offered 3 2 = 3405 | offered 4 2 = 4365");
    run(37, "upTo 5 = -5 | offer 12 6 = -5 | offer 21 6 = -5 | offer 1 7 = -5 | offer 44 1 = -5 | upTo 0 = -5 | upTo 1 = 1 | upTo 2 = 1 | upTo 3 = 21 | "
        + "upTo 7 = 21 | upTo 8 = 44 | upTo HIGH = 44 | upTo LOW = -5");

    run(38, "dearest = -5 | offer 12 1 = -5 | dearest = 12 | offer 21 1 = -5 | dearest = 12 | offer 44 7 = -5 | dearest = 44 | offer 44 6 = 7 | "
        + "dearest = 12 | offer 44 5 = 6 | dearest = 12 | offer 0 0 = -5 | dearest = 0 | offer 11 2 = -5 | dearest = 0");

    run(39, SMALL + "plan 0 0 999 = 1 | plan 0 1 -99 = 2 | plan 1 1 99 = 3 | plan 2 1 -9 = 4 | plan 3 0 0 = -1 | plan -2 0 0 = -1 | plan 0 2 0 = -1 | "
        + "plan 0 -1 0 = -1 | plan 1 2 0 = -1 | plan 2 2 0 = -1 | plan 1 -1 0 = -1 | plan 0 0 1000 = -2 | plan 0 0 -100 = -2 | plan 1 0 100 = -2 | "
        + "plan 1 0 -1 = -2 | plan 2 0 10 = -2 | plan 2 0 -10 = -2 | plan 0 2 1000 = -1 | plan 0 0 1 = 5 | plan 0 0 1 = 6 | plan 0 0 1 = 7 | plan 0 0 1 = 8 | "
        + "plan 0 0 1 = -4 | plan 0 0 1000 = -2 | count 6 = 8 | solve 0 = 2 | plan -1 99 9999 = 0 | count 6 = 0 | value 0 = 19 | plan 0 0 1 = 1");

    run(39, "rule 0 0 = 0 | rule 0 0 = 1 | rule 0 0 = 2 | plan 0 2 5 = 1 | plan 2 2 5 = 2 | plan 1 2 5 = -1 | plan 1 1 5 = 3 | plan 0 3 5 = -1 | plan 2 3 5 = -1 | "
        + "size 5 = 2 | rule 0 0 = 0 | plan 1 4 5 = 1 | plan 0 1 5 = -1 | plan 2 1 5 = -1 | plan 1 5 5 = -1");
    run(40, "ends = 0 | cost 0 3 = 1 | cost 1 4 = 1 | rule 0 7 = 0 | factor 0 0 2 = 100 | factor 0 1 3 = 100 | rule 1 2 = 1 | factor 1 1 1 = 100 | "
        + "ends = 10 | plan 0 0 8 = 1 | ends = 11 | plan 1 1 0 = 2 | ends = 3 | plan 2 0 1 = 3 | ends = 6 | plan 0 0 7 = 4 | ends = 3 | plan 0 1 -1 = 5 | "
        + "ends = -5 | less = 1 | ends = 0 | count 6 = 5 | ruleOf 0 1 = 1007 | less = 0 | ends = 0 | rule 0 0 = 0 | ends = 21 | solve 0 = 1 | ends = 21 | "
        + "entry -1 3 = 1");
    run(40, BIGGER + "ends = -6");
  }

  private static void judgingAndImages() throws Exception {
    run(41, SMALL + "judge 6 0 = -1 | judge -1 0 = -1 | judge 0 0 = -3 | tape 0 3 4 = 1 | judge 0 0 = -12 | tape 0 2 4 = 1 | judge 0 0 = -3 | "
        + "solve 0 = 2 | judge 0 0 = -3 | solve 1 = 1 | judge 1 0 = 100 | judge 0 0 = 0 | item 0 0 2 = 1 | judge 0 0 = 1 | item 0 1 1 = 1 | "
        + "judge 0 0 = -5 | judge 0 1 = 0 | item 0 3 2 = 1 | judge 0 3 = 101 | judge 0 4 = 100 | judge 0 5 = 100 | judge 0 -1 = 100 | judge 0 LOW = 100 | "
        + "judge 0 HIGH = 100 | item 0 2 2 = 1 | item 0 3 0 = 1 | judge 0 2 = 1 | tape 0 0 2 = 1 | judge 0 0 = -12 | tape 0 4 2 = 1 | judge 0 0 = -12 | "
        + "tape 0 1 2 = 1 | judge 0 0 = -12 | tape 0 2 0 = 1 | judge 0 0 = 100 | tape 0 -1 0 = 1 | judge 0 0 = 100 | bound 1 2 = 1002 | judge 0 0 = -3");
    run(41, "size 1 = 2 | rule 0 1 = 0 | solve 0 = 0 | tape 0 2 1 = 1 | judge 0 0 = -3");

    run(42, "image = 0 | rule 0 1 = 0 | solve 0 = 0 | image = 1 | value 0 = 0 | less = 0 | undo = 1 | value 0 = NO");

    String filled = "size 3 = 2 | cost 2 9 = 1 | rule 0 7 = 0 | factor 0 2 2 = 100 | rule 1 50 = 1 | hand 0 5 = 0 | hand 1 6 = 0 | by 7 = 1 | box 3 = 4 | "
        + "see 0 1 = 1 | plan 0 0 5 = 1 | offer 11 5 = -5 | offer 1 6 = -5 | text a>1 | tape 0 2 3 = 1 | ";
    run(43, "undo = -3 | " + filled + "image = 2 | solve 0 = 2 | size 1 = 3 | rule 0 3 = 0 | hand 0 1 = 0 | by 2 = 1 | box 6 = 3 | see 0 2 = 1 | see 0 3 = 2 | "
        + "plan 1 0 5 = 1 | offer 2 3 = -5 | item 0 1 4 = 1 | solve 0 = 0 | undo = 2 | value 0 = NO | count 0 = 3 | count 1 = 2 | count 5 = 1 | count 6 = 1 | "
        + "count 7 = 2 | count 8 = 3 | count 9 = 3 | peek 0 1 = 4 | ruleOf 0 0 = 1000 | ruleOf 0 1 = 1007 | ruleOf 0 4 = 1002 | ruleOf 1 0 = 1001 | "
        + "offered 0 0 = 1 | offered 1 0 = 11 | offered 0 1 = 6 | offered 0 2 = 9 | offered 1 1 = 5 | offered 1 2 = 10 | ends = 27 | fits 0 0 = 0 | by 7 = 7 | hand 0 5 = 5 | hand 1 6 = 6 | cost 2 9 = 9 | "
        + "rule 0 0 = 2 | hand 2 0 = 0 | see -1 0 = 0 | plan -1 0 0 = 0 | undo = 2 | undo = 2 | count 7 = 2 | count 5 = 1 | count 6 = 1 | count 1 = 2");
    run(43, "rule 0 7 = 0 | factor 0 0 2 = 100 | factor 0 1 1 = 100 | rule 1 2 = 1 | factor 1 0 1 = 100 | cost 1 9 = 1 | see 0 2 = 1 | see 1 16 = 2 | plan 0 0 9 = 1 | "
        + "plan 1 0 5 = 2 | plan 2 1 0 = 3 | ends = 25 | fits 0 0 = 1 | fits 0 1 = 20 | image = 2 | see -1 0 = 0 | plan -1 0 0 = 0 | see 1 5 = 1 | see 0 1 = 2 | "
        + "plan 1 1 1 = 1 | plan 0 1 1 = 2 | plan 1 0 1 = 3 | undo = 2 | ends = 25 | fits 0 0 = 1 | fits 0 1 = 20");
    // what comes behind THE IMAGE leaves it
    run(43, filled + "image = 2 | bound 0 9 = 1007 | factor 0 0 9 = 100 | hand 0 1 = 5 | offer 11 8 = 5 | offer 0 1 = -5 | see 1 1 = 2 | plan 0 0 6 = 2 | less = 1 | "
        + "undo = 2 | ruleOf 0 1 = 1007 | ruleOf 0 2 = 1000 | offered 1 1 = 5 | hand 0 5 = 5 | hand 1 6 = 6 | count 6 = 1 | count 5 = 1 | bound 0 9 = 1007 | undo = 2 | "
        + "ruleOf 0 1 = 1007");

    run(44, "count -1 = -2 | count 10 = -2 | " + SMALL + "count 0 = 2 | count 1 = 2 | count 2 = 0 | solve 1 = 1 | count 2 = 3 | count 3 = 1 | count 4 = 3 | see 1 1 = 1 | "
        + "see 1 1 = 2 | see 1 1 = 3 | plan 1 0 1 = 1 | plan 1 0 1 = 2 | offer 1 1 = -5 | feed 1 = 1 | count 5 = 3 | count 6 = 2 | count 7 = 1 | count 8 = 1 | "
        + "count 9 = 4 | box 2 = 4 | count 9 = 2 | rule 0 0 = 2 | count 1 = 3 | count 2 = 0 | count 3 = 0 | count 4 = 0 | undo = -3");
  }

  private static void tapes() throws Exception {
    run(45, "tape 6 0 1 = -1 | tape -1 0 1 = -1 | tape 6 9 -1 = -1 | tape 0 5 1 = -2 | tape 0 -2 1 = -2 | tape 0 0 61 = -2 | tape 0 0 -1 = -14 | tape 0 5 -1 = -2 | "
        + "tape 0 0 60 = 1 | peek 0 59 = 0 | peek 0 60 = NO | item 0 59 5 = 1 | tape 0 0 60 = 1 | peek 0 59 = 0 | item 0 0 5 = 1 | tape 0 0 -5 = -14 | peek 0 0 = 5 | "
        + "tape 0 -1 -5 = 1 | peek 0 0 = NO | tape 0 0 0 = 1 | peek 0 0 = NO | item 0 0 1 = -13 | tape 0 -1 99 = 1 | item 0 0 1 = -11 | tape 5 4 3 = 1 | peek 5 2 = 0");
    run(46, "item 6 0 1 = -1 | item -1 0 1 = -1 | item 0 0 1 = -11 | item 0 -1 1 = -11 | tape 0 0 2 = 1 | item 0 -1 1 = -13 | item 0 2 1 = -13 | item 0 0 200 = 1 | "
        + "peek 0 0 = -56 | item 0 1 -129 = 1 | peek 0 1 = 127 | tape 1 1 1 = 1 | item 1 0 40000 = 1 | peek 1 0 = -25536 | tape 2 2 1 = 1 | item 2 0 4294967297 = 1 | "
        + "peek 2 0 = 1 | item 2 0 2147483648 = 1 | peek 2 0 = LOW | tape 3 3 1 = 1 | item 3 0 9223372036854775807 = 1 | peek 3 0 = 9223372036854775807 | "
        + "item 3 0 NO = 1 | peek 3 0 = NO | tape 4 4 1 = 1 | item 4 0 256 = 1 | peek 4 0 = 1 | item 4 0 -1 = 1 | peek 4 0 = 1 | item 4 0 0 = 1 | peek 4 0 = 0 | "
        + "item 4 0 4294967296 = 1 | peek 4 0 = 1");
    run(47, "peek 0 0 = NO | peek 6 0 = NO | peek -1 0 = NO | tape 0 3 2 = 1 | item 0 1 77 = 1 | peek 0 1 = 77 | peek 0 0 = 0 | peek 0 2 = NO | peek 0 -1 = NO | peek 1 0 = NO");
    run(48, "shift 0 0 6 0 0 = -1 | shift 6 0 0 0 0 = -1 | shift -1 0 0 0 0 = -1 | shift 0 0 -1 0 0 = -1 | shift 0 0 1 0 0 = -11 | tape 0 2 4 = 1 | shift 0 0 1 0 0 = -11 | "
        + "shift 1 0 0 0 0 = -11 | tape 1 3 4 = 1 | shift 0 0 1 0 9 = -12 | tape 1 2 3 = 1 | item 0 0 5 = 1 | item 0 1 6 = 1 | item 0 2 7 = 1 | item 0 3 8 = 1 | "
        + "shift 0 1 1 0 3 = 3 | peek 1 0 = 6 | peek 1 1 = 7 | peek 1 2 = 8 | shift 0 0 1 1 3 = -13 | shift 0 2 1 0 3 = -13 | shift 0 -1 1 0 1 = -13 | shift 0 0 1 -1 1 = -13 | "
        + "shift 0 0 1 0 -1 = -13 | shift 0 4 1 3 0 = 0 | shift 0 5 1 0 0 = -13 | shift 0 0 1 4 0 = -13 | shift 0 0 1 0 HIGH = -13 | shift 0 HIGH 1 0 1 = -13 | "
        + "shift 0 0 1 HIGH HIGH = -13 | peek 1 0 = 6 | shift 0 0 0 1 3 = 3 | peek 0 0 = 5 | peek 0 1 = 5 | peek 0 2 = 6 | peek 0 3 = 7 | shift 0 1 0 0 3 = 3 | peek 0 0 = 5 | "
        + "peek 0 1 = 6 | peek 0 2 = 7 | peek 0 3 = 7");
  }

  private static void constants() {
    if (WholePacks.NONE != -1 || WholePacks.BAD != -2 || WholePacks.STATE != -3 || WholePacks.FULL != -4
        || WholePacks.NO != Long.MIN_VALUE) {
      Runs.say("a constant is wrong");
    }
  }

  private static final String BIG = problem(new int[] {86, 12, 91, 28, 16}, new int[][] {
      {0, 676, -2, -5, -4, -4, 7}, {0, 139, 9, -1, 9, -5, -8}, {0, 73, -2, 1, -1, 5, 3}, {0, 383, 9, 4, -9, 6, 2},
      {0, 416, -9, 9, 1, -9, 5}});
  private static final String RIGHT_STUCK = problem(new int[] {3, 1, 1, 1, 3}, new int[][] {
      {0, 950, 4, -4, 6, -4, 1}, {0, 382, -9, 6, -5, 5, 8}, {0, 404, 9, -4, -5, 4, 9}, {0, 65, 1, -3, 2, 1, -7},
      {1, 630, 0, -8, 6, 1, 7}, {0, 917, 8, 9, 5, 9, -9}});
  private static final String NO_LEAST = problem(new int[] {3, 3, 2, 1}, new int[][] {
      {0, 7, 9, 8, 8, 0}, {0, 15, 9, 6, 4, 5}, {0, 29, 3, 4, 0, 7}, {0, 12, 3, 8, 6, 5}});
}
