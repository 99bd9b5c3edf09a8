/** Sentences that name a boundary case, each with a test of its own: PACKS, RULES, THE TEXT (promises 1 to 10). */
public final class BoundaryPacksTest {
  private static final String EIGHT = "rule 0 0 = 0 | rule 1 0 = 1 | rule 0 0 = 2 | rule 1 0 = 3 | rule 0 0 = 4 | rule 1 0 = 5 | rule 0 0 = 6 | rule 1 0 = 7 | ";

  public static void main(String[] args) throws Exception {
    newObjects();
    sizes();
    costs();
    rules();
    factors();
    bounds();
    fewerRules();
    feeding();
    clauses();
    terms();
    boundsInTexts();
    everySign();
    faults();
    room();
    toldOfRules();
    noTable();
    Runs.end("boundaries of packs, rules, texts", 1, 10);
  }

  private static void holds(int promise, String sentence, String... runs) throws Exception {
    Runs.holds(promise, sentence, runs);
  }

  private static void newObjects() throws Exception {
    holds(1, "Two PACKS, no RULES, no TABLE.",
        "count 0 = 2 | count 1 = 0 | count 2 = 0 | count 3 = 0 | count 4 = 0 | value 0 = NO | value 1 = NO | entry -2 0 = NO | entry -1 0 = NO | "
        + "entry 0 0 = NO | amount 0 0 = NO | price 0 0 = NO | cut 0 0 = NO | weight 0 10 0 = NO | proved 0 = -1 | lost 0 = -1 | bites = -3 | "
        + "judge 0 0 = -3 | ruleOf 0 0 = -1 | less = -3 | cost 1 1 = 1 | cost 2 1 = -1",
        "count 5 = 0 | count 6 = 0 | count 7 = 0 | count 8 = 0 | upTo 999 = -5 | dearest = -5 | offered 0 0 = -2 | ends = 0 | undo = -3 | read = -10");
  }

  private static void sizes() throws Exception {
    holds(2, "n being 1 .. 5 (2 at first)",
        "count 0 = 2 | size 0 = -2 | size 6 = -2 | size -1 = -2 | size LOW = -2 | size HIGH = -2 | count 0 = 2 | size 1 = 2 | size 0 = -2 | count 0 = 1 | "
        + "size 5 = 1 | size 6 = -2 | count 0 = 5 | size 4 = 5 | size 3 = 4 | size 2 = 3");
    for (int n = 1; n <= 5; n++) {
      int last = n - 1;
      holds(2, "PACKS 0 .. n less 1", "size " + n + " = 2 | cost -1 1 = -1 | cost 0 1 = 1 | cost " + last + " 1 = 1 | cost " + n + " 1 = -1 | "
          + "rule 0 0 = 0 | factor 0 -1 0 = -1 | factor 0 " + last + " 0 = 100 | factor 0 " + n + " 0 = -1 | see -2 0 = -1 | see " + last + " 0 = 1 | "
          + "see " + n + " 0 = -1 | plan 1 -1 0 = -1 | plan 1 " + last + " 0 = 1 | plan 1 " + n + " 0 = -1 | solve 0 = 1 | amount -1 0 = NO | "
          + "amount " + last + " 0 = 0 | amount " + n + " 0 = NO");
      holds(2, "(letters a, b, ..)", "size " + n + " = 2 | text " + (char) ('a' + last) + ">1 | read = 1 | ruleOf 0 " + (2 + last) + " = 1001 | "
          + "text " + (char) ('a' + n) + ">1 | read = -10 | text A>1 | read = -10");
    }
    String filled = "size 5 = 2 | cost 0 7 = 1 | cost 4 9 = 1 | rule 0 7 = 0 | factor 0 0 2 = 100 | rule 1 9 = 1 | hand 0 5 = 0 | hand 1 9 = 0 | by 7 = 1 | "
        + "box 3 = 4 | see 0 1 = 1 | plan 0 0 5 = 1 | offer 11 5 = -5 | ";
    String bare = "count 1 = 0 | count 5 = 0 | count 6 = 0 | count 7 = 0 | count 9 = 3 | by 1 = 1 | cost 0 1 = 1 | rule 0 0 = 0 | hand 0 0 = 0 | rule 0 0 = 1 | "
        + "hand 1 0 = 0 | ruleOf 0 2 = 1000 | ";
    String sentence = "n becomes another (or the same): all COSTS are 1, there are no RULES, SEEN, PLAN, OFFERS, HANDS are 0, BY is 1 (BOX stays): what n was.";
    holds(2, sentence, filled + "size 5 = 5 | " + bare + "cost 4 1 = 1", filled + "size 1 = 5 | " + bare + "cost 1 1 = -1 | size 5 = 1 | cost 4 1 = 1",
        filled + "size 0 = -2 | size 6 = -2 | count 0 = 5 | count 1 = 2 | count 5 = 1 | count 6 = 1 | count 7 = 1 | hand 1 9 = 9 | by 7 = 7 | cost 4 9 = 9");
  }

  private static void costs() throws Exception {
    holds(3, "a COST (0 .. 99; 1 at first)",
        "cost 0 -1 = -2 | cost 0 100 = -2 | cost 0 LOW = -2 | cost 0 HIGH = -2 | cost 0 0 = 1 | cost 0 -1 = -2 | cost 0 99 = 0 | cost 0 100 = -2 | cost 0 5 = 99 | "
        + "cost 1 5 = 1");
    holds(3, "COST of a PACK becomes v: what it was. NONE; BAD.",
        "cost -1 5 = -1 | cost 2 5 = -1 | cost LOW 5 = -1 | cost HIGH 5 = -1 | cost -1 -1 = -1 | cost 2 100 = -1 | cost 0 1 = 1 | cost 1 1 = 1");
    holds(3, "size(), cost(), if they aren't refused, make that there are none.",
        "offer 11 5 = -5 | cost 0 -1 = -2 | cost 0 100 = -2 | cost 2 5 = -1 | cost -1 5 = -1 | size 0 = -2 | size 6 = -2 | count 7 = 1 | offered 0 1 = 5 | cost 0 1 = 1 | "
        + "count 7 = 0 | offer 11 6 = -5 | size 2 = 2 | count 7 = 0 | offer 11 7 = -5");
  }

  private static void rules() throws Exception {
    holds(4, "RULES 0 .. 7, as they come",
        EIGHT + "rule 0 0 = -4 | rule 1 999 = -4 | count 1 = 8 | bound 7 5 = 1000 | bound 8 5 = -1 | bound -1 5 = -1 | less = 7 | bound 7 5 = -1 | rule 1 6 = 7 | "
        + "ruleOf 7 1 = 1006 | rule 0 0 = -4");
    holds(4, "a SORT (0 LEAST, 1 MOST)",
        "rule -1 0 = -2 | rule 2 0 = -2 | rule LOW 0 = -2 | rule HIGH 0 = -2 | count 1 = 0 | rule 0 0 = 0 | rule 1 0 = 1 | ruleOf 0 0 = 1000 | ruleOf 1 0 = 1001");
    holds(4, "a BOUND (-99 .. 999)",
        "rule 0 -100 = -2 | rule 0 1000 = -2 | rule 1 -100 = -2 | rule 1 1000 = -2 | rule 0 LOW = -2 | rule 0 HIGH = -2 | count 1 = 0 | rule 0 -99 = 0 | rule 0 999 = 1 | "
        + "rule 1 -99 = 2 | rule 1 999 = 3 | ruleOf 0 1 = 901 | ruleOf 1 1 = 1999 | ruleOf 2 1 = 901 | ruleOf 3 1 = 1999");
    holds(4, "A RULE comes: its number. BAD: sort, bound; FULL.", EIGHT + "rule -1 0 = -2 | rule 2 0 = -2 | rule 0 -100 = -2 | rule 0 1000 = -2 | rule 0 0 = -4 | count 1 = 8");
  }

  private static void factors() throws Exception {
    holds(5, "for each PACK a FACTOR (-9 .. 9; 0 at first)",
        "size 5 = 2 | rule 0 0 = 0 | ruleOf 0 2 = 1000 | ruleOf 0 6 = 1000 | factor 0 4 -10 = -2 | factor 0 4 10 = -2 | factor 0 4 LOW = -2 | factor 0 4 HIGH = -2 | "
        + "factor 0 4 -9 = 100 | factor 0 4 -10 = -2 | factor 0 4 9 = 91 | factor 0 4 10 = -2 | factor 0 4 9 = 109",
        // a RULE that comes where another went has no FACTORS of it
        "rule 0 0 = 0 | factor 0 0 9 = 100 | factor 0 1 -9 = 100 | less = 0 | rule 0 0 = 0 | ruleOf 0 2 = 1000 | ruleOf 0 3 = 1000");
    holds(5, "FACTOR of a PACK in a RULE becomes v: what it was, and 100. NONE: rule, pack; BAD.",
        "factor 0 0 0 = -1 | rule 0 0 = 0 | factor -1 0 1 = -1 | factor 1 0 1 = -1 | factor LOW 0 1 = -1 | factor HIGH 0 1 = -1 | factor 0 -1 1 = -1 | factor 0 2 1 = -1 | "
        + "factor 0 LOW 1 = -1 | factor 0 HIGH 1 = -1 | factor 1 0 10 = -1 | factor 0 2 -10 = -1 | factor 0 0 10 = -2 | factor 0 0 0 = 100 | factor 0 1 0 = 100",
        EIGHT + "factor 7 1 4 = 100 | factor 8 1 4 = -1 | ruleOf 7 3 = 1004 | ruleOf 6 3 = 1000");
  }

  private static void bounds() throws Exception {
    holds(6, "BOUND of a RULE becomes v: what it was, and 1000. NONE; BAD.",
        "bound 0 0 = -1 | rule 0 7 = 0 | bound -1 5 = -1 | bound 1 5 = -1 | bound LOW 5 = -1 | bound HIGH 5 = -1 | bound 1 1000 = -1 | bound -1 -100 = -1 | bound 0 7 = 1007");
    holds(6, "a BOUND (-99 .. 999)",
        "rule 0 7 = 0 | bound 0 -100 = -2 | bound 0 1000 = -2 | bound 0 LOW = -2 | bound 0 HIGH = -2 | bound 0 -99 = 1007 | bound 0 -100 = -2 | bound 0 999 = 901 | "
        + "bound 0 1000 = -2 | bound 0 0 = 1999");
  }

  private static void fewerRules() throws Exception {
    holds(7, "how many there are. STATE: there are none.",
        "less = -3 | rule 0 0 = 0 | less = 0 | less = -3 | count 1 = 0",
        EIGHT + "less = 7 | less = 6 | less = 5 | less = 4 | less = 3 | less = 2 | less = 1 | ruleOf 0 0 = 1000 | less = 0 | ruleOf 0 0 = -1 | less = -3");
    holds(7, "The last RULE is no more (its HAND is 0)",
        EIGHT + "hand 7 9 = 0 | hand 6 8 = 0 | hand 0 1 = 0 | less = 7 | hand 7 1 = -1 | hand 6 8 = 8 | rule 0 0 = 7 | hand 7 0 = 0 | hand 6 8 = 8 | hand 0 1 = 1 | "
        + "less = 7 | less = 6 | less = 5 | less = 4 | less = 3 | less = 2 | less = 1 | less = 0 | rule 0 0 = 0 | hand 0 0 = 0");
  }

  private static String eighty(String told) {
    return told.repeat(80).substring(0, 80);
  }

  private static void feeding() throws Exception {
    holds(8, "A sign (0 .. 127) comes behind THE TEXT's: how many it has.",
        "feed -1 = -2 | feed 128 = -2 | feed LOW = -2 | feed HIGH = -2 | feed 255 = -2 | count 8 = 0 | feed 0 = 1 | feed 127 = 2 | feed 128 = -2 | count 8 = 2 | read = -10 | "
        + "feed 97 = 1 | feed 127 = 2 | read = -11",
        "text a> | feed 49 = 3 | feed -1 = -2 | feed 128 = -2 | read = 1 | ruleOf 0 1 = 1001");
    holds(8, "RULES are read from THE TEXT (bytes, 80 at most)",
        "text " + eighty("a-a+") + " | count 8 = 80 | feed 97 = -4 | feed 0 = -4 | count 8 = 80 | read = -90 | count 8 = 0 | feed 97 = 1",
        "text " + eighty("a-a+").substring(1) + " | count 8 = 79 | feed 62 = 80 | feed 49 = -4 | feed 62 = -4 | read = -89");
    holds(8, "BAD; FULL.", "text " + eighty("a") + " | feed -1 = -2 | feed 128 = -2 | feed 127 = -4 | feed 0 = -4 | count 8 = 80");
  }

  private static void clauses() throws Exception {
    holds(9, "CLAUSES, 1 to 4, with ; between", "read = -10 | count 1 = 0", "text ; | read = -10 | text ;a>1 | read = -10 | text a>1;;a>1 | read = -14",
        "text a>1 | read = 1 | count 1 = 1", "text a>1;a>2;a>3;a>4 | read = 4 | count 1 = 4 | ruleOf 3 1 = 1004");
    holds(9, "A fifth CLAUSE is a FAULT at the ; ahead of it.",
        "text a>1;a>2;a>3;a>4;a>5 | read = -25 | count 1 = 0", "text a>1;a>2;a>3;a>4; | read = -25 | count 1 = 0",
        "text -a+b>-17;a>999;b<5;a<-99;b>0 | read = -34 | count 1 = 0");
    holds(9, "then > (LEAST) or < (MOST)", "text a>1;a<1 | read = 2 | ruleOf 0 0 = 1000 | ruleOf 1 0 = 1001",
        "text a=1 | read = -11 | text a;1 | read = -11 | text a?1 | read = -11 | text a>>1 | read = -12 | text a><1 | read = -12 | text a1 | read = -11");
  }

  private static void terms() throws Exception {
    holds(9, "perhaps -, a TERM, any number of + or - with a TERM behind each",
        "text a>1 | read = 1 | ruleOf 0 2 = 1001", "text -a>1 | read = 1 | ruleOf 0 2 = 999", "text --a>1 | read = -11 | text +a>1 | read = -10 | text -+a>1 | read = -11",
        // as many as THE TEXT has room for: 39 of them
        "text a-" + "a+a-".repeat(18) + "a+b>00 | count 8 = 80 | read = 1 | ruleOf 0 2 = 1000 | ruleOf 0 3 = 1001",
        "text a++b>1 | read = -12 | text a+-b>1 | read = -12 | text ab>1 | read = -11 | text a+>1 | read = -12 | text a->1 | read = -12");
    holds(9, "TERM: perhaps a digit (else 1), then a letter of a PACK that there is.",
        "text 0a+9b>1 | read = 1 | ruleOf 0 2 = 1000 | ruleOf 0 3 = 1009", "text a-b>1 | read = 1 | ruleOf 0 2 = 1001 | ruleOf 0 3 = 999",
        "text 12a>1 | read = -11 | text 00a>1 | read = -11 | text 1>1 | read = -11 | text b+c>1 | read = -12 | text 9c>1 | read = -11");
    holds(9, "FACTORS of one PACK are added.",
        "text 5a+4a>0;-5a-4a>0;9a-9a>0;0a>0 | read = 4 | ruleOf 0 2 = 1009 | ruleOf 1 2 = 991 | ruleOf 2 2 = 1000 | ruleOf 3 2 = 1000",
        // each CLAUSE from 0 on
        "text 9a>1;9a+b>2;a-b>3 | read = 3 | ruleOf 0 2 = 1009 | ruleOf 1 2 = 1009 | ruleOf 1 3 = 1001 | ruleOf 2 2 = 1001 | ruleOf 2 3 = 999",
        "size 5 = 2 | text 9a+9b+9c+9d+9e-9a>1;e>2 | read = 2 | ruleOf 0 2 = 1000 | ruleOf 0 6 = 1009 | ruleOf 1 5 = 1000 | ruleOf 1 6 = 1001");
    String good = "-2a+b>-17;b<2";
    for (int at = 0; at <= good.length(); at++) {
      holds(9, "No blanks.", "text " + good.substring(0, at) + "~" + good.substring(at) + " | read = " + (-10 - at) + " | count 1 = 0 | text " + good + " | read = 2");
    }
    holds(9, "of a TERM by which a FACTOR is not -9 .. 9 any more its letter",
        "text 9a>0;-9a>0 | read = 2", "text 9a+a>0 | read = -13", "text 9a+1a>0 | read = -14", "text -9a-a>0 | read = -14", "text -9a-1a>0 | read = -15",
        "text 9a-9a-9a>0 | read = 1 | ruleOf 0 2 = 991", "text 9a-9a-9a-a>0 | read = -19", "text 9a+a-a>0 | read = -13", "text 9a+9b+0a>0 | read = 1 | text 9a+9b+1b>0 | read = -17",
        "text a>1;9b+b>0 | read = -17");
  }

  private static void boundsInTexts() throws Exception {
    holds(9, "perhaps -, a number (1 to 3 digits), the BOUND",
        "text a>0;a>9;a>00;a>99 | read = 4 | ruleOf 0 1 = 1000 | ruleOf 1 1 = 1009 | ruleOf 2 1 = 1000 | ruleOf 3 1 = 1099",
        "text a>000;a>999;a>007;a>-0 | read = 4 | ruleOf 0 1 = 1000 | ruleOf 1 1 = 1999 | ruleOf 2 1 = 1007 | ruleOf 3 1 = 1000",
        "text a>-1;a>-01;a>-099;a>-000 | read = 4 | ruleOf 0 1 = 999 | ruleOf 1 1 = 999 | ruleOf 2 1 = 901 | ruleOf 3 1 = 1000",
        "text a> | read = -12 | text a>- | read = -13 | text a>;a>1 | read = -12 | text a>-;a>1 | read = -13 | text a>--1 | read = -13 | text a>+1 | read = -12",
        "text a>0000 | read = -15 | text a>1000 | read = -15 | text a>9999 | read = -15 | text a>-0000 | read = -16 | count 1 = 0");
    holds(9, "of a BOUND below -99 its last digit",
        "text a>-99 | read = 1 | ruleOf 0 1 = 901 | text a<-99 | read = 1 | ruleOf 1 1 = 901", "text a>-100 | read = -15 | text a<-100 | read = -15 | text a>-999 | read = -15 | count 1 = 0",
        "text a>100;a>999 | read = 2", "text b>1;a>-100;b>1 | read = -19 | count 1 = 0");
    holds(9, "(of several the first place)",
        "text a>-1000 | read = -15 | text a>-100~ | read = -15 | text a>-0999 | read = -16 | text a>-99~;a>-100 | read = -15",
        "text 9a+a>-100 | read = -13 | text 9a+a+c>1 | read = -13 | text 9a+c+a>1 | read = -13 | text 9a+ab>1 | read = -13 | text a>-100;9a+a | read = -15");
  }

  /** Behind each of these beginnings all 128 signs: by those told here it goes on, by any other there is a FAULT. */
  private static void everySign() throws Exception {
    String digits = "0123456789";
    String start = "-" + digits + "ab";
    String[][] beginnings = {
        {"", start}, {"-", digits + "ab"}, {"2", "ab"}, {"a", "+-<>"}, {"-3b", "+-<>"}, {"a+", digits + "ab"}, {"a-", digits + "ab"}, {"a+3", "ab"},
        {"a>", "-" + digits}, {"a<", "-" + digits}, {"a>-", digits}, {"a>1", digits + ";"}, {"a>12", digits + ";"}, {"a>123", ";"}, {"a>-1", digits + ";"},
        {"a>-12", ";"}, {"a>-09", digits + ";"}, {"a>-099", ";"}, {"a>1;", start}, {"a>1;a>1;a>1;", start}, {"a>1;a>1;a>1;a>1", digits}, {"a>1;a>1;a>1;a>123", ""}};
    for (String[] beginning : beginnings) {
      for (int sign = 0; sign < 128; sign++) {
        boolean goesOn = beginning[1].indexOf(sign) >= 0;
        int length = beginning[0].length();
        boolean ends = goesOn && digits.indexOf(sign) >= 0 && beginning[0].matches(".*[<>]-?[0-9]*");
        long due = ends ? beginning[0].chars().filter(c -> c == ';').count() + 1 : -10 - length - (goesOn ? 1 : 0);
        holds(9, "The FAULT: the place of the first byte with which none begins so",
            (length == 0 ? "" : "text " + beginning[0] + " | ") + "feed " + sign + " = " + (length + 1) + " | read = " + due);
      }
    }
  }

  private static void faults() throws Exception {
    String good = "-2a+b>-17;b<2";
    for (int length = 0; length <= good.length(); length++) {
      String text = good.substring(0, length);
      boolean whole = text.endsWith("1") || text.endsWith("7") || text.endsWith("<2");
      int clauses = text.contains(";") ? 2 : 1;
      holds(9, "(the end of THE TEXT, if it ends too early)",
          (length == 0 ? "" : "text " + text + " | ") + "read = " + (whole ? clauses : -10 - length) + " | count 1 = " + (whole ? clauses : 0));
    }
    holds(9, "(the end of THE TEXT, if it ends too early)", "text " + eighty("a-a+") + " | read = -90", "text " + eighty("b+0") + " | read = -90");
    holds(9, "RULES come from THE TEXT, which is empty then in any case",
        "text a>1 | read = 1 | count 8 = 0 | read = -10 | count 8 = 0", "text a>x | read = -12 | count 8 = 0 | text b>1 | read = 1 | ruleOf 0 3 = 1001",
        EIGHT + "text a>1 | read = -4 | count 8 = 0 | read = -10");
  }

  private static void room() throws Exception {
    String four = "text a>1;a>2;a>3;a>4 | ";
    holds(9, "how many; -10 less the FAULT; FULL: no FAULT, but no room for all.",
        four + "read = 4 | " + four + "read = 4 | count 1 = 8 | ruleOf 7 1 = 1004 | text a>1 | read = -4 | count 1 = 8",
        "rule 0 0 = 0 | rule 0 0 = 1 | rule 0 0 = 2 | rule 0 0 = 3 | rule 0 0 = 4 | " + four + "read = -4 | count 1 = 5 | text a>1;a>2;a>3 | read = 3 | count 1 = 8 | ruleOf 7 1 = 1003",
        EIGHT + "text a>1; | read = -14 | text a>-100 | read = -15 | text a>1;a>2;a>3;a>4;a>5 | read = -25 | read = -10 | count 1 = 8",
        "text a>x | read = -12 | text x | read = -10 | rule 0 5 = 0");
  }

  private static void toldOfRules() throws Exception {
    holds(10, "Of a RULE what 0 SORT, 1 BOUND, 2 and a PACK its FACTOR (1000 more each). NONE: rule, what.",
        "ruleOf 0 0 = -1 | rule 0 -99 = 0 | rule 1 999 = 1 | factor 0 0 -9 = 100 | factor 1 1 9 = 100 | ruleOf 0 0 = 1000 | ruleOf 1 0 = 1001 | ruleOf 0 1 = 901 | "
        + "ruleOf 1 1 = 1999 | ruleOf 0 2 = 991 | ruleOf 0 3 = 1000 | ruleOf 1 2 = 1000 | ruleOf 1 3 = 1009 | ruleOf 0 -1 = -1 | ruleOf 0 4 = -1 | ruleOf 0 LOW = -1 | "
        + "ruleOf 0 HIGH = -1 | ruleOf -1 0 = -1 | ruleOf 2 0 = -1 | ruleOf LOW 0 = -1 | ruleOf HIGH 0 = -1",
        EIGHT + "ruleOf 7 0 = 1001 | ruleOf 8 0 = -1");
    for (int n = 1; n <= 5; n++) {
      holds(10, "2 and a PACK its FACTOR", "size " + n + " = 2 | rule 0 0 = 0 | factor 0 " + (n - 1) + " 6 = 100 | ruleOf 0 " + (n + 1) + " = 1006 | ruleOf 0 " + (n + 2) + " = -1");
    }
  }

  private static void noTable() throws Exception {
    String solved = "size 1 = 2 | cost 0 2 = 1 | rule 0 1 = 0 | factor 0 0 2 = 100 | solve 1 = 1 | count 3 = 1 | value 0 = 2 | ";
    String gone = "value 0 = NO | entry -1 2 = NO | amount 0 0 = NO | cut 0 0 = NO | proved 0 = -1 | count 2 = 0 | count 3 = 0 | count 4 = 0 | bites = -3";
    String stays = "value 0 = 2 | entry -1 2 = 1 | amount 0 0 = 1 | cut 0 0 = -1 | proved 0 = 1 | count 2 = 2 | count 3 = 1 | count 4 = 2 | bites = 0";
    String sentence = "if they aren't refused and no FAULT is told (by the same number, too), make that there is no TABLE (and no CUTS).";
    for (String same : new String[] {"size 1 = 1", "cost 0 2 = 2", "rule 0 1 = 1", "factor 0 0 2 = 102", "bound 0 1 = 1001", "less = 0", "text a>1 | read = 1"}) {
      holds(2, sentence, solved + same + " | " + gone);
    }
    for (String refused : new String[] {"size 0 = -2 | size 6 = -2", "cost 0 100 = -2 | cost 1 2 = -1", "rule 2 0 = -2 | rule 0 1000 = -2", "factor 0 0 10 = -2 | factor 1 0 2 = -1 | factor 0 1 2 = -1",
        "bound 0 1000 = -2 | bound 1 1 = -1", "read = -10 | text a> | read = -12 | text 9a+a>1 | read = -13 | text a>-100 | read = -15", "solve -1 = -2 | solve 13 = -2"}) {
      holds(2, sentence, solved + refused + " | " + stays);
    }
    holds(2, sentence, "solve 0 = 1 | less = -3 | value 0 = 0", EIGHT + "solve 0 = 1 | rule 0 0 = -4 | text a>1 | read = -4 | value 0 = 0 | less = 7 | value 0 = NO");
    holds(2, "Whatever is told of PACKS or RULES, also the same as it was, there is no TABLE then; HAND, BY and BOX leave it.",
        solved + "hand 0 9 = 0 | by 10 = 1 | box 6 = 4 | " + stays,
        solved + "hand 0 0 = 0 | by 1 = 1 | box 4 = 4 | see 0 1 = 1 | plan 0 0 5 = 1 | offer 1 5 = -5 | feed 97 = 1 | tape 0 2 1 = 1 | item 0 0 5 = 1 | image = 1 | would 0 9 = 10 | ends = 6 | "
        + "fits 0 0 = 0 | odds 0 1 1 5 0 = 1 | drawn 1 1 = 6 | branch 0 = 2 | nth 0 = 1 | " + stays);
  }
}
