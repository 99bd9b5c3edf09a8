import java.util.ArrayList;
import java.util.List;

/**
 * "What is answered so changes nothing" (Terms, Answers), and "All that follows is asked, and changes nothing" (Terms, 3):
 * two objects are filled alike; one of them has a refused call (or is asked something) more. All that later calls
 * show must be the same of both: in some groups of looks, for one object has 512 calls.
 */
public final class RefusalTest {
  private static int compared = 0;

  /** How an object is filled, and the numbers by which calls are refused then. */
  private static final class Filled {
    final String name;
    final List<String> calls = new ArrayList<>();
    final int packs, rules, cuts, offers;
    final List<List<Long>> shown = new ArrayList<>();

    Filled(String name, int packs, int rules, int cuts, int offers, String... told) {
      this.name = name;
      this.packs = packs;
      this.rules = rules;
      this.cuts = cuts;
      this.offers = offers;
      for (String some : told) add(some);
    }

    Filled add(String told) {
      for (String call : told.split("\\|")) {
        String c = call.split(" = ")[0].trim();
        if (c.startsWith("text ")) for (char sign : c.substring(5).toCharArray()) calls.add("feed " + (int) sign);
        else if (!c.isEmpty()) calls.add(c);
      }
      return this;
    }
  }

  public static void main(String[] args) throws Exception {
    List<Filled> all = List.of(empty(), some(), full());
    for (Filled filled : all) {
      List<List<String>> looks = looks(filled);
      for (List<String> group : looks) filled.shown.add(show(filled, null, Long.MIN_VALUE, group));
      for (String refused : refusedAlways(filled)) same(filled, looks, refused);
      for (String refused : refusedByRules(filled)) same(filled, looks, refused);
    }
    for (String refused : List.of("less = -3", "bites = -3", "undo = -3", "judge 0 0 = -3", "item 0 0 1 = -11", "item 5 0 1 = -11", "shift 0 0 1 0 0 = -11", "value 0 = NO", "value 1 = NO", "entry 0 0 = NO",
        "entry -1 0 = NO", "amount 0 0 = NO", "peek 0 0 = NO", "offered 0 0 = -2")) same(all.get(0), looks(all.get(0)), refused);
    for (String refused : List.of("judge 0 0 = -12", "judge 1 0 = -12", "judge 3 0 = -12", "judge 4 0 = -12", "item 5 0 1 = -11", "item 2 4 1 = -13", "item 2 -1 1 = -13", "shift 2 0 5 0 0 = -11", "shift 2 0 3 0 1 = -12",
        "shift 2 0 2 1 4 = -13", "shift 2 4 2 0 1 = -13", "shift 2 0 2 0 -1 = -13", "shift 2 5 2 0 0 = -13", "peek 2 4 = NO", "peek 5 0 = NO")) same(all.get(1), looks(all.get(1)), refused);
    for (String refused : List.of("rule 0 0 = -4", "rule 1 999 = -4", "feed 97 = -4", "see 0 0 = -4", "see 4 999 = -4", "offer 20 5 = -4", "offer 99999 0 = -4", "plan 0 0 0 = -4", "plan 1 0 0 = -4", "plan 2 0 0 = -4",
        "judge 2 0 = -3", "item 0 60 1 = -13", "shift 0 0 0 1 60 = -13")) same(all.get(2), looks(all.get(2)), refused);
    for (Filled filled : all) for (String asked : asks(filled)) same(filled, looks(filled), asked);
    texts();
    System.out.println("refusals: " + compared + " objects looked at");
    Runs.end("refusals", 1, 0);
  }

  private static Filled empty() {
    return new Filled("a new object", 2, 0, 0, 0);
  }

  /** A WHOLE TABLE with 12 CUTS, and some of all; THE IMAGE is of something else. */
  private static Filled some() {
    return new Filled("some", 3, 3, 12, 3, "size 4 | cost 3 9 | rule 1 7 | factor 0 3 2 | hand 0 3 | by 2 | box 1 | see 3 4 | plan 0 0 8 | offer 1234 5 | image | box 3",
        Problems.TWELVE, "hand 0 4 | hand 2 9 | by 7 | see 0 2 | see 2 5 | plan 0 2 14 | plan 1 0 70 | plan 2 2 6 | offer 210 300 | offer 12 5 | offer 999 0 | text a>1;b<2", tapes(4), "solve 12");
  }

  /** All is full: 8 RULES, 12 CUTS, 5 SEEN, 8 rows of the PLAN, 20 OFFERS, 80 bytes, 60 items; the TABLE is not WHOLE. */
  private static Filled full() {
    Filled f = new Filled("full", 5, 8, 12, 20, "rule 0 3 | image | box 1", Problems.DEEP, "rule 0 0 | rule 1 999 | rule 0 -99 | rule 1 0 | hand 0 9 | hand 7 9 | hand 3 4 | by 10",
        "see 0 0 | see 4 5 | see 1 1 | see 2 2 | see 3 3 | plan 0 0 20 | plan 1 4 99 | plan 2 3 9 | plan 0 1 3 | plan 0 2 70 | plan 0 3 9 | plan 1 0 5 | plan 2 0 9 | text " + ("a-a+".repeat(18) + "a>1;b<2;"), tapes(60));
    for (int k = 0; k < 20; k++) f.add("offer " + k + " " + (40 - k));
    return f.add("solve 12");
  }

  private static String tapes(int n) {
    StringBuilder calls = new StringBuilder();
    for (int t = 0; t < 5; t++) calls.append("tape ").append(t).append(' ').append(t).append(' ').append(n).append(" | item ").append(t).append(" 0 77 | item ").append(t).append(' ').append(n - 1).append(" -3000000000 | ");
    return calls.toString();
  }

  /** What is answered; and a call that throws, or more than 512 of them, is wrong. */
  private static List<Long> show(Filled filled, String more, long due, List<String> looks) throws Exception {
    WholePacks x = new WholePacks();
    compared++;
    for (String call : filled.calls) Runs.ask(x, call);
    if (more != null) {
      String[] sides = more.split(" = ");
      long got = Runs.ask(x, sides[0]);
      if (sides.length > 1 && got != Runs.told(sides[1])) Runs.say(filled.name + ": " + more + ": answered " + got);
    }
    List<Long> shown = new ArrayList<>();
    for (String call : looks) shown.add(Runs.ask(x, call));
    if (filled.calls.size() + 1 + looks.size() > Runs.MOST_CALLS) Runs.say(filled.name + ": too many calls: " + (filled.calls.size() + 1 + looks.size()));
    return shown;
  }

  private static void same(Filled filled, List<List<String>> looks, String more) throws Exception {
    for (int g = 0; g < looks.size(); g++) {
      List<Long> shown = show(filled, more, 0, looks.get(g));
      List<Long> before = filled.shown.get(g);
      for (int k = 0; k < shown.size(); k++) {
        if (shown.get(k).equals(before.get(k))) continue;
        Runs.say(filled.name + ": behind " + more + " " + looks.get(g).get(k) + " answers " + shown.get(k) + ", without it " + before.get(k));
        break;
      }
    }
  }

  private static List<List<String>> looks(Filled f) {
    List<List<String>> groups = new ArrayList<>();
    groups.add(rulesAndTable(f));
    groups.add(cuts(f));
    for (int from = 0; from < f.cuts; from += 4) groups.add(weights(f, from));
    groups.add(thoughts(f));
    groups.add(boxes(f));
    for (int from = 0; from < 6; from += 3) groups.add(items(from));
    groups.add(told(f));
    groups.add(behindUndo(f));
    return groups;
  }

  private static List<String> counts() {
    List<String> calls = new ArrayList<>();
    for (int what = 0; what <= 9; what++) calls.add("count " + what);
    return calls;
  }

  private static List<String> ruleLooks(int rules, int packs) {
    List<String> calls = counts();
    for (int r = 0; r <= rules; r++) for (int what = 0; what < 2 + packs; what++) calls.add("ruleOf " + r + " " + what);
    return calls;
  }

  private static List<String> rulesAndTable(Filled f) {
    List<String> calls = ruleLooks(f.rules, f.packs);
    calls.add("value 0");
    calls.add("value 1");
    for (int row = -2; row < f.rules + f.cuts; row++) for (int column = 0; column < f.packs + 2; column++) calls.add("entry " + row + " " + column);
    for (int p = 0; p < f.packs; p++) calls.add("amount " + p + " 0");
    for (int r = 0; r < f.rules; r++) calls.add("price " + r + " 0");
    return calls;
  }

  private static List<String> cuts(Filled f) {
    List<String> calls = new ArrayList<>();
    for (int c = 0; c <= f.cuts; c++) {
      for (int p = 0; p <= f.packs; p++) calls.add("cut " + c + " " + p);
      calls.add("proved " + c);
      calls.add("lost " + c);
    }
    calls.add("bites");
    for (int p = 0; p <= f.packs; p++) calls.add("points " + p);
    return calls;
  }

  private static List<String> weights(Filled f, int from) {
    List<String> calls = new ArrayList<>();
    for (int c = from; c < from + 4; c++) {
      for (int r = 0; r < f.rules; r++) for (int part = 0; part < 2; part++) calls.add("weight " + c + " " + (10 + r) + " " + part);
      for (int e = 0; e < c; e++) for (int part = 0; part < 2; part++) calls.add("weight " + c + " " + (20 + e) + " " + part);
    }
    return calls;
  }

  private static List<String> thoughts(Filled f) {
    List<String> calls = new ArrayList<>();
    for (int what = 0; what < f.packs + 4; what++) calls.add("branch " + what);
    for (int r = 0; r < f.rules; r++) calls.addAll(List.of("would " + r + " 5", "fits " + r + " 0", "fits " + r + " 1", "odds " + r + " 0 8 99 0", "odds " + r + " 0 8 99 1"));
    for (int k = 0; k <= f.offers; k++) for (int what = 0; what < 3; what++) calls.add("offered " + k + " " + what);
    calls.addAll(List.of("mean 0", "mean 1", "drawn 7 4", "upTo 5", "upTo 9999", "dearest", "ends", "judge 2 0", "judge 2 1", "judge 5 0"));
    return calls;
  }

  private static List<String> boxes(Filled f) {
    List<String> calls = new ArrayList<>();
    for (int k = 0; k < 20; k++) calls.add("nth " + k);
    calls.addAll(List.of("many 0", "many 1", "lost -1", "breaks 0", "breaks 9", "breaks 7"));
    return calls;
  }

  private static List<String> items(int from) {
    List<String> calls = new ArrayList<>();
    for (int t = from; t < from + 3; t++) for (int i = 0; i < 60; i++) calls.add("peek " + t + " " + i);
    return calls;
  }

  /** What is shown only by what a telling call answers. */
  private static List<String> told(Filled f) {
    List<String> calls = new ArrayList<>();
    for (int p = 0; p < f.packs; p++) calls.add("cost " + p + " 3");
    for (int r = 0; r < f.rules; r++) calls.add("hand " + r + " 2");
    calls.addAll(List.of("by 4", "box 2", "count 8"));
    // THE TEXT shows by what comes of it
    for (int r = f.rules; r > 5; r--) calls.add("less");
    if (f.rules == 0) calls.addAll(List.of("feed 97", "feed 62", "feed 49"));
    if (f.rules == 8) calls.add("feed 97");
    calls.add("read");
    calls.addAll(ruleLooks(f.rules + 2, f.packs));
    calls.addAll(List.of("see 0 0", "see 0 1", "plan 1 0 0", "offer 5 5", "offer 5 6", "item 0 0 1", "peek 0 0", "item 5 0 1", "rule 0 4"));
    for (int r = 0; r < f.rules; r++) calls.add("hand " + r + " 2");
    return calls;
  }

  /** THE IMAGE shows behind undo(). */
  private static List<String> behindUndo(Filled f) {
    List<String> calls = new ArrayList<>(List.of("undo"));
    calls.addAll(ruleLooks(4, 5));
    calls.addAll(List.of("value 0", "bites", "ends", "fits 0 0", "fits 0 1", "points 0", "points 4", "offered 0 0", "offered 0 1", "offered 0 2", "offered 1 0", "branch 0", "nth 3", "many 1", "see 0 0", "plan 1 0 0"));
    for (int p = 0; p < 5; p++) calls.add("cost " + p + " 1");
    for (int r = 0; r < 4; r++) calls.add("hand " + r + " 0");
    calls.addAll(List.of("by 1", "box 4", "count 8", "peek 2 0", "undo", "count 1", "count 9"));
    return calls;
  }

  private static List<String> refusedAlways(Filled f) {
    int n = f.packs;
    int top = (int) Math.pow(10, n);
    List<String> calls = new ArrayList<>(List.of("size 0 = -2", "size 6 = -2", "size LOW = -2", "size HIGH = -2", "cost -1 5 = -1", "cost " + n + " 5 = -1", "cost 0 -1 = -2", "cost 0 100 = -2", "rule -1 0 = -2", "rule 2 0 = -2",
        "rule 0 -100 = -2", "rule 1 1000 = -2", "feed -1 = -2", "feed 128 = -2", "solve -1 = -2", "solve 13 = -2", "solve LOW = -2", "entry -3 0 = NO", "entry 20 0 = NO", "entry -1 " + (n + 2) + " = NO", "entry -2 " + n + " = NO",
        "amount -1 0 = NO", "amount " + n + " 0 = NO", "amount 0 2 = NO", "value 2 = NO", "value -1 = NO", "cut -1 0 = NO", "cut " + f.cuts + " 0 = NO", "weight -1 10 0 = NO", "weight " + f.cuts + " 10 0 = NO", "proved -1 = -1",
        "proved " + f.cuts + " = -1", "by 0 = -2", "by 11 = -2", "points -1 = NO", "points " + (n + 1) + " = NO", "box -1 = -2", "box 7 = -2", "nth -1 = -2", "nth 20 = -2", "many -1 = -1", "many 2 = -1", "breaks -1 = -2",
        "breaks " + top + " = -2", "lost -2 = -1", "lost " + f.cuts + " = -1", "branch -1 = -1", "branch " + (n + 4) + " = -1", "mean 2 = NO", "mean -1 = NO", "drawn 5 0 = -2", "drawn 5 5 = -2"));
    calls.addAll(List.of("see -2 0 = -1", "see " + n + " 0 = -1", "see 0 -1 = -2", "see 0 1000 = -2", "offer -1 0 = -2", "offer " + top + " 0 = -2", "offer 0 -1 = -2", "offer 0 1000 = -2", "offered 0 3 = -1", "offered 0 -1 = -1",
        "offered -1 0 = -2", "offered " + f.offers + " 0 = -2", "plan -2 0 0 = -1", "plan 3 0 0 = -1", "plan 1 -1 0 = -1", "plan 1 " + n + " 0 = -1", "plan 1 0 -1 = -2", "plan 1 0 100 = -2", "judge -1 0 = -1", "judge 6 0 = -1",
        "count -1 = -2", "count 10 = -2", "tape -1 2 3 = -1", "tape 6 2 3 = -1", "tape 0 -2 3 = -2", "tape 0 5 3 = -2", "tape 0 2 61 = -2", "tape 0 2 -1 = -14", "tape 2 2 LOW = -14", "item -1 0 1 = -1", "item 6 0 1 = -1",
        "peek -1 0 = NO", "peek 6 0 = NO", "peek 0 60 = NO", "peek 0 -1 = NO", "shift -1 0 0 0 0 = -1", "shift 0 0 6 0 0 = -1"));
    return calls;
  }

  private static List<String> refusedByRules(Filled f) {
    int m = f.rules;
    List<String> calls = new ArrayList<>();
    for (int r : new int[] {-1, m}) {
      for (String c : List.of("factor R 0 1", "bound R 5", "ruleOf R 0", "hand R 1", "would R 5", "fits R 0", "plan 0 R 5", "plan 2 R 5")) calls.add(c.replace("R", "" + r) + " = -1");
      for (String c : List.of("price R 0", "odds R 5 1 9 0")) calls.add(c.replace("R", "" + r) + " = NO");
    }
    if (m == 0) return calls;
    int last = m - 1;
    for (String c : List.of("factor R -1 1", "factor R " + f.packs + " 1", "ruleOf R -1", "ruleOf R " + (f.packs + 2), "fits R -1", "fits R 2")) calls.add(c.replace("R", "" + last) + " = -1");
    for (String c : List.of("factor R 0 -10", "factor R 0 10", "bound R -100", "bound R 1000", "hand R -1", "hand R 10", "would R -100", "would R 1000", "plan 0 R -100", "plan 0 R 1000", "plan 2 R -10", "plan 2 R 10")) {
      calls.add(c.replace("R", "" + last) + " = -2");
    }
    for (String c : List.of("price R 2", "odds R -100 1 9 0", "odds R 1000 1 9 0", "odds R 5 0 9 0", "odds R 5 9 9 0", "odds R 993 8 9 0", "odds R 5 1 -1 0", "odds R 5 1 9 2")) calls.add(c.replace("R", "" + last) + " = NO");
    return calls;
  }

  private static List<String> asks(Filled f) {
    List<String> calls = new ArrayList<>(List.of("points 0", "nth 0", "nth 19", "many 0", "many 1", "breaks 0", "breaks 9", "lost -1", "branch 0", "branch 1", "branch 4", "mean 0", "drawn 3 4", "drawn LOW 1", "upTo 7", "dearest", "ends",
        "judge 2 0", "judge 5 0", "count 2", "peek 2 0", "entry -1 0", "amount 0 0", "value 0", "cut 0 0", "weight 0 10 0", "proved 0", "lost 0", "offered 0 0"));
    if (f.rules > 0) calls.addAll(List.of("bites", "ruleOf 0 0", "price 0 0", "would 0 -99", "would 0 999", "fits 0 0", "fits 0 1", "odds 0 0 8 99 0", "odds 0 992 8 99 1"));
    return calls;
  }

  /** A text that is refused is gone, and nothing else is changed: as if it had never been fed. */
  private static void texts() throws Exception {
    for (String text : List.of("text a>1;b<2;x | read = -18", "text 9a+a>1 | read = -13", "text a>-100 | read = -15", "text a>1; | read = -14", "text | read = -10", "text a>1 | read = -4")) {
      for (Filled bare : List.of(bare(empty()), bare(some()), bare(full()))) {
        boolean noRoom = text.endsWith("-4");
        if (noRoom && bare.rules < 8) continue;
        List<List<String>> looks = looks(bare);
        for (List<String> group : looks) bare.shown.add(show(bare, null, 0, group));
        Filled fed = bare(bare);
        fed.add(text.split("\\|")[0].replaceAll("text $", ""));
        fed.shown.addAll(bare.shown);
        same(fed, looks, text.split("\\|")[1].trim());
      }
    }
  }

  /** The same with THE TEXT empty. */
  private static Filled bare(Filled f) {
    Filled bare = new Filled(f.name + ", no text", f.packs, f.rules, f.cuts, f.offers);
    for (String call : f.calls) if (!call.startsWith("feed ")) bare.calls.add(call);
    return bare;
  }
}
