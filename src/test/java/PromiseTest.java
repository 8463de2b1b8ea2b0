/** Each promise of the document by hand: ordinary calls, the edges that it names, wrong calls. */
public final class PromiseTest {
  private static int good = 0;
  private static int bad = 0;
  private static String promise = "";

  /** Two chairs on a strand of 20, one on a strand of 9, and one that is nobody's. */
  private static final String HALL = "hall;strand 20;strand 9;chair 15 0;chair 12 0;chair 10 1;chair 9 0;"
      + "sitter 1 6;sitter 0 4;sitter 2 3";
  /** Three on a strand that lets nothing through, so that nobody ever falls. */
  private static final String CALM = "hall;strand 0;chair 5 0;chair 5 0;chair 5 0;sitter 0 1;sitter 1 2;sitter 2 3";

  private static void due(String call, int got, int want) {
    if (got == want) {
      good++;
    } else {
      bad++;
      System.out.println(promise + ": " + call + " answered " + got + ", due is " + want);
    }
  }

  private static void feedText(ChairCane x, String text) {
    x.end(0);
    for (int at = 0; at < text.length(); at += 20) {
      int[] n = new int[5];
      for (int k = 0; k < 20; k++) {
        n[k / 4] = n[k / 4] << 8 | (at + k < text.length() ? text.charAt(at + k) : 0);
      }
      x.feed(n[0], n[1], n[2], n[3], n[4]);
    }
    x.end(text.length());
  }

  private static int hall(ChairCane x, String text) {
    feedText(x, text);
    return x.hall();
  }

  private static int rule(ChairCane x, String text) {
    feedText(x, text);
    return x.rule();
  }

  private static ChairCane with(String hall, String... rules) {
    ChairCane x = new ChairCane();
    if (hall != null) hall(x, hall);
    for (String r : rules) due("rule " + r, Math.min(0, rule(x, r)), 0);
    if (rules.length > 0) x.force(0);
    return x;
  }

  /** The answer for a fault. */
  private static int fault(int place, int kind) {
    return -2 - (1 + 8 * place + kind);
  }

  private static void hallFault(String text, int place, int kind) {
    due("hall of '" + text + "'", hall(new ChairCane(), text), fault(place, kind));
  }

  private static void ruleFault(String text, int place, int kind) {
    due("rule of '" + text + "'", rule(new ChairCane(), text), fault(place, kind));
  }

  private static String times(String part, int n) {
    return part.repeat(n);
  }

  public static void main(String[] args) {
    texts();
    being();
    acts();
    goingOn();
    bearing();
    notes();
    rest();
    System.out.println("PromiseTest: " + good + " passed, " + bad + " failed");
    if (bad != 0) System.exit(1);
  }

  private static void texts() {
    newObject();
    feed();
    end();
    hallAnswers();
    hallFaults();
    ruleAnswers();
    ruleFaults();
    ruleWords();
    ruleSums();
    ruleTests();
    force();
  }

  private static void newObject() {
    promise = "1 new";
    ChairCane x = new ChairCane();
    for (int what = 0; what <= 12; what++) due("count(" + what + ")", x.count(what), what == 4 ? -1 : 0);
    due("NONE", ChairCane.NONE, -1);
    due("minute without a hall", x.minute(), -1);
    due("force(0) without a rule", x.force(0), -2);
    due("undo", x.undo(), -2);
    due("back", x.back(0), -1);
  }

  private static void feed() {
    promise = "2 feed";
    ChairCane x = new ChairCane();
    for (int k = 1; k <= 20; k++) due("feed " + k, x.feed(k, -k, 0, 1, 2), 20 * k);
    due("feed beyond 400", x.feed(0, 0, 0, 0, 0), -1);
    due("none came", x.count(12), 400);
    x.end(381);
    due("feed at 381", x.feed(0, 0, 0, 0, 0), -1);
    x.end(380);
    due("feed at 380", x.feed(0, 0, 0, 0, 0), 400);
    x.end(0);
    due("hall in bytes", x.feed(0x68616c6c, 0x20202020, 0x20202020, 0x20202020, 0x20202020), 20);
    due("highest first", x.hall(), 0);
    x.feed(0x68616c6c, 0xe9000000, 0, 0, 0);
    due("a byte above 127", x.hall(), fault(4, 0));
  }

  private static void end() {
    promise = "3 end";
    ChairCane x = new ChairCane();
    due("end(0)", x.end(0), 0);
    due("end(1) of none", x.end(1), -1);
    x.feed(1, 2, 3, 4, 5);
    due("end(21)", x.end(21), -1);
    due("end(-1)", x.end(-1), -1);
    due("end least", x.end(Integer.MIN_VALUE), -1);
    due("end most", x.end(Integer.MAX_VALUE), -1);
    due("all is there", x.count(12), 20);
    due("end(20)", x.end(20), 20);
    due("end(7)", x.end(7), 7);
    due("seven", x.count(12), 7);
  }

  private static void hallAnswers() {
    promise = "4 hall";
    ChairCane x = new ChairCane();
    due("hall alone", hall(x, "hall"), 0);
    due("hall", hall(x, HALL), 3);
    due("the tape is empty", x.count(12), 0);
    due("blanks", hall(x, "  hall ;strand7 ; chair 00060 0;sitter0 20  "), 1);
    due("strand", x.strand(0), 7);
    due("height", x.chair(0, 0), 60);
    due("mixed order", hall(x, "hall;strand 0;chair 1 0;sitter 0 1;strand 99;chair 60 1;sitter 1 20"), 2);
    rule(x, "sit 1");
    x.force(0);
    x.seed(77);
    x.note(1, 0, 1);
    x.sit(0);
    x.minute();
    x.image(2);
    due("a fault leaves all", hall(x, "hall;"), fault(5, 0));
    due("minute stays", x.count(5), 1);
    due("notes stay", x.count(9), 1);
    due("acts stay", x.count(10), 2);
    due("tape is empty", x.count(12), 0);
    due("sitters stay", x.count(2), 2);
    due("another hall", hall(x, CALM), 3);
    due("no minute", x.count(5), 0);
    due("all stand", x.count(6), 0);
    due("none dropped", x.count(7), 0);
    due("no notes", x.count(9), 0);
    due("nothing to be undone", x.count(10), 0);
    due("the rule in force stays", x.count(4), 0);
    due("x stays", x.count(11), 77);
    due("images stay", x.back(2), 1);
  }

  private static void hallFaults() {
    promise = "4 hall's faults";
    hallFault("", 0, 0);
    hallFault("   ", 3, 0);
    hallFault("hal", 0, 0);
    hallFault("Hall", 0, 0);
    hallFault("hallo", 0, 0);
    hallFault("hallz", 0, 0);
    hallFault("hall{", 4, 0);
    hallFault("hall`", 4, 0);
    hallFault(times(";", 400), 0, 0);
    due("hall and blanks", hall(new ChairCane(), "hall" + times(" ", 396)), 0);
    hallFault("hall" + times(" ", 395) + ";", 400, 0);
    hallFault(" ;hall", 1, 0);
    hallFault("hall;;", 5, 0);
    hallFault("hall;  ", 7, 0);
    hallFault("hall strand 1", 5, 0);
    hallFault("hall7", 4, 0);
    hallFault("hall;sit 1", 5, 0);
    hallFault("hall;strand", 11, 0);
    hallFault("hall;strand x", 12, 0);
    hallFault("hall;strand -1", 12, 0);
    hallFault("hall;strand 99 9", 15, 0);
    hallFault("hall;strand 000001", 12, 1);
    hallFault("hall;strand 100x", 12, 1);
    hallFault("hall;strand 1;chair 1", 21, 0);
    hallFault("hall;strand 1;chair 0 9", 20, 1);
    hallFault("hall;strand 1;chair 60 1", 23, 1);
    hallFault("hall;strand 1;chair 61 0", 20, 1);
    hallFault("hall;strand 1;chair 1 0;sitter 0 21", 33, 1);
    hallFault("hall;strand 1;chair 1 0;sitter 1 1", 31, 1);
    hallFault("hall;strand 1;chair 1 0;sitter 0", 32, 0);
    hallFault("hall;strand 1;chair 1 0;sitter 0 00", 33, 1);
    hallFault("hall;strand 1;chair 1 0;sitter 0 1;sitter 0 99", 42, 1);
    hallFault("chair 1 0;hall", 0, 4);
    hallFault("  sitter", 2, 4);
    hallFault("hall; hall", 6, 4);
    hallFault("hall" + times(";strand 1", 4) + "; strand x", 42, 4);
    hallFault("hall" + times(";strand 1", 4) + ";strands", 41, 0);
    hallFault("hall;strand 1" + times(";chair 1 0", 8) + ";chair", 94, 4);
    hallFault("hall" + (char) 9, 4, 0);
    hallFault("hall" + (char) 0, 4, 0);
    hallFault("hall" + (char) 200, 4, 0);
  }

  private static void ruleAnswers() {
    promise = "5 rule";
    ChairCane x = new ChairCane();
    for (int k = 0; k < 6; k++) {
      due("a fault", rule(x, "sit 1 if"), fault(8, 0));
      due("the tape is empty", x.count(12), 0);
      due("how many", x.count(3), k);
      due("rule", rule(x, "sit " + k), k);
    }
    due("a seventh", rule(x, "sit 7"), -1);
    due("the tape stays", x.count(12), 5);
    due("a seventh, spoiled", rule(x, "s"), -1);
    due("six", x.count(3), 6);
  }

  private static void ruleFaults() {
    promise = "5 rule's faults";
    ruleFault("", 0, 0);
    ruleFault("sit ", 4, 0);
    ruleFault("hall", 0, 0);
    ruleFault("sit 1;", 6, 0);
    ruleFault("sit 1,", 5, 0);
    ruleFault("sit -1", 4, 0);
    ruleFault("sit 1+", 6, 0);
    ruleFault("sit 1 1", 6, 0);
    ruleFault("sit 1 sits", 6, 0);
    ruleFault("sit not 1", 4, 0);
    ruleFault("sit [1]", 4, 0);
    ruleFault("sit hall", 4, 0);
    ruleFault("sit 1=1", 5, 0);
    ruleFault("sit 1 if 1", 10, 0);
    ruleFault("sit 1 if 1 or 2=2", 11, 0);
    ruleFault("sit 1 if 1=1=1", 12, 0);
    ruleFault("sit 1 if 1==1", 11, 0);
    ruleFault("sit 1 if 1< =1", 12, 0);
    ruleFault("sit 1 if 1=<1", 11, 0);
    ruleFault("sit 1 if 1<>1", 11, 0);
    ruleFault("sit 1 if 1!1", 10, 0);
    ruleFault("sit 1 if [1=1", 13, 0);
    ruleFault("sit 1 if [1=1;sit 1", 13, 0);
    ruleFault("sit 1 if []", 10, 0);
    ruleFault("sit 1 if 1=1]", 12, 0);
    ruleFault("sit 1 if [1=1] + 1", 15, 0);
    ruleFault("sit 1 if not", 12, 0);
    ruleFault("sit 1 if notnot 1=1", 9, 0);
    ruleFault("sit 1 if 1=1 and", 16, 0);
    ruleFault("sit 1 if 1=1 if 1=1", 13, 0);
    ruleFault("sit 1 if 1+not 1=1", 11, 0);
    ruleFault("sit 123456", 4, 1);
    ruleFault("sit 1 if 1 < 000000", 13, 1);
    ruleFault("sit 1 if 2=1 and " + times("not ", 11) + "1=1", 57, 2);
    ruleFault("sit 1 if " + times("[not ", 5) + " [1=1]", 35, 2);
    ruleFault("sit 1 if " + times("not[", 5) + " not 1=1", 30, 2);
    ruleFault(times("sit 1;", 12) + "sit", 72, 4);
    ruleFault(times("sit 1;", 12) + "  sit 1", 74, 4);
    ruleFault(times("sit 1;", 12) + "sat", 72, 0);
    ruleFault(times("sit 1;", 12), 72, 0);
    // sixty values stand, and the next value or fact does not
    String sixty = "sit 1" + times("+1", 59);
    ruleFault(sixty + "+give", sixty.length() + 1, 3);
    ruleFault(sixty + "+000000", sixty.length() + 1, 1);
    ruleFault(sixty + "+giver", sixty.length() + 1, 0);
    ruleFault(sixty + ";sit 1", sixty.length() + 5, 3);
    ruleFault("sit 1" + times("+1", 58) + " if 1 >= 1", 4 + 2 * 59 - 1 + 4 + 2, 3);
    ruleFault("sit 1" + times("+1", 57) + " if 1 >= 1", 4 + 2 * 58 - 1 + 4 + 5, 3);
    due("sixty", rule(new ChairCane(), sixty), 0);
    due("sixty with a fact", rule(new ChairCane(), "sit 1" + times("+1", 56) + " if 1>=1"), 0);
    due("ten deep", rule(new ChairCane(), "sit 1 if " + times("[not ", 5) + "1=1" + times("]", 5)), 0);
    due("ten deep twice", rule(new ChairCane(), "sit 1 if " + times("not ", 10) + "1=1 and " + times("not ", 10) + "1=1"), 0);
    due("twelve", rule(new ChairCane(), times("sit 1;", 11) + "sit 1"), 0);
    due("no blanks", rule(new ChairCane(), "sit1if1<2and[3>=2or not 1=1]and not not 4<=4"), 0);
    due("four hundred bytes", rule(new ChairCane(), "sit 1" + times(" ", 395)), 0);
  }

  /** Who sits behind one minute by a rule. */
  private static int seated(String hall, String rule, int... sitting) {
    ChairCane x = with(hall);
    due("rule " + rule, rule(x, rule), 0);
    for (int s : sitting) x.sit(s);
    x.force(0);
    x.minute();
    return x.count(6);
  }

  private static void ruleWords() {
    promise = "5 rule's words";
    due("sitter", seated(CALM, "sit sitter"), 6);
    due("chair", seated("hall;strand 0;chair 5 0;chair 5 0;chair 5 0;sitter 2 1;sitter 0 2;sitter 1 3", "sit chair"), 5);
    due("weight", seated(CALM, "sit weight-1"), 6);
    due("height", seated("hall;strand 0;chair 5 0;chair 9 0;sitter 1 1;sitter 0 1", "sit height-5"), 1);
    due("cane", seated("hall;strand 3;strand 4;chair 60 1;chair 60 0;sitter 0 1;sitter 1 1", "sit cane-3"), 1);
    due("sits", seated(CALM, "sit 1-sits", 1), 5);
    due("others by how all is then", seated(CALM, "sit 2-others"), 3);
    due("others of those ahead", seated(CALM, "sit others", 2), 7);
    due("others not oneself", seated(CALM, "sit others", 0), 0);
    due("others on that strand", seated("hall;strand 0;strand 0;chair 5 0;chair 5 1;chair 5 0;sitter 0 1;sitter 1 2;sitter 2 3",
        "sit others", 2), 5);
    ChairCane fallen = with("hall;strand 12;chair 60 0;chair 3 0;chair 60 0;sitter 0 6;sitter 1 6;sitter 2 1", "sit others-1");
    fallen.sit(0);
    fallen.sit(2);
    fallen.sit(1);
    due("1 has 5 of 12 on 3", fallen.count(7), 2);
    due("others who sit yet", fallen.ahead(0, 1, 0), 0);
    fallen.undo();
    fallen.help(1);
    fallen.let(0, 5);
    fallen.sit(1);
    fallen.let(0, 4);
    fallen.undo();
    due("two others behind what was undone", fallen.ahead(0, 1, 0), 1);
    due("press", seated(CALM, "sit 3-press"), 3);
    due("press not oneself", seated(CALM, "sit press-1 if sits=1;sit 1", 0, 1), 5);
    ChairCane give = with("hall;strand 10;chair 60 0;chair 60 0;sitter 0 1;sitter 1 2", "sit 4-give if sits=1");
    give.sit(0);
    give.sit(1);
    give.minute();
    due("give, of which ten is six and three", give.count(6), 1);
    give.minute();
    due("give, alone", give.count(6), 0);
    ChairCane dropped = with("hall;strand 9;strand 0;chair 9 0;chair 9 1;sitter 0 1;sitter 1 1", "sit dropped if sitter=1;sit 1");
    dropped.minute();
    due("none dropped yet", dropped.count(6), 0);
    due("dropped", dropped.count(7), 1);
    dropped.minute();
    due("one dropped", dropped.count(6), 2);
    ChairCane minute = with(CALM, "sit minute-1");
    minute.minute();
    minute.minute();
    due("minute 1", minute.count(6), 0);
    minute.minute();
    due("minute 2", minute.count(6), 7);
  }

  private static boolean holds(String test) {
    return seated(CALM, "sit 1 if " + test) == 7;
  }

  private static void holds(String test, boolean want) {
    due(test, holds(test) ? 1 : 0, want ? 1 : 0);
  }

  private static void ruleSums() {
    promise = "5 rule's sums";
    holds("2+3*4=14", true);
    holds("10-3-2=5", true);
    holds("2*3%4=2", true);
    holds("7/2*2=6", true);
    holds("1+7%4-2*3=0-2", true);
    holds("0-7/2=0-3", true);
    holds("minute-7/2+7%2=0-2", true);
    holds("5/0=0 and 5%0=0", true);
    holds("99999*99999*99999*99999/99999=99999*99999*99999", false);
    holds("65536*65536*65536*65536=0", true);
    holds("65536*65536*65536*32768<0", true);
    // the least of all, by one below 0, is itself again, and its rest 0
    due("least by -1", seated(CALM, "sit 1 if minute/2=0 and 65536*65536*65536*32768/minute=0;sit 0"), 7);
    holds("00012=12", true);
  }

  private static void ruleTests() {
    promise = "5 rule's tests";
    String[] signs = {"<", "<=", "=", ">=", ">"};
    boolean[][] want = {{true, true, false, false, false}, {false, true, true, true, false}, {false, false, false, true, true}};
    for (int s = 0; s < 5; s++) {
      for (int k = 0; k < 3; k++) holds("" + (k + 1) + signs[s] + "2", want[k][s]);
    }
    holds("1=1 or 1=1 and 1=2", true);
    holds("[1=1 or 1=1] and 1=2", false);
    holds("1=2 and 1=1 or 1=1", true);
    holds("not 1=2 and 1=2", false);
    holds("not [1=2 and 1=2]", true);
    holds("not not 1=1", true);
    holds("not 1=1", false);
    holds("not 1=2", true);
    holds("[not [1=2]]", true);
    holds("1=2 or 1=2 or 1=1", true);
    holds("1=1 and 1=1 and 1=2", false);
    due("without a clause that holds", seated(CALM, "sit 1 if 1=2", 0, 1), 0);
    due("the first clause that holds", seated(CALM, "sit 1 if 1=2;sit 0 if 1=1;sit 1", 0), 0);
    due("behind a clause without a test", seated(CALM, "sit 0;sit 1"), 0);
    due("above 0", seated(CALM, "sit 0-1", 0), 0);
    due("each by its own clause", seated(CALM, "sit 1 if sitter=1;sit 0"), 2);
  }

  private static void force() {
    promise = "6 force";
    ChairCane x = with(CALM);
    due("force(NONE)", x.force(-1), -1);
    due("force(0)", x.force(0), -2);
    rule(x, "sit 1");
    rule(x, "sit 0");
    due("force(1)", x.force(1), -1);
    due("force(2)", x.force(2), -2);
    due("force(-2)", x.force(-2), -2);
    due("force(0)", x.force(0), 1);
    due("is in force", x.count(4), 0);
    x.minute();
    due("all sit", x.count(6), 7);
    due("force(NONE)", x.force(-1), 0);
    x.minute();
    due("all stays", x.count(6), 7);
    x.force(1);
    x.minute();
    due("none sits", x.count(6), 0);
    due("no act", x.count(10), 3);
  }

  private static void being() {
    promise = "7 strand";
    ChairCane x = with(HALL);
    due("strand(0)", x.strand(0), 20);
    due("strand(1)", x.strand(1), 9);
    due("strand(2)", x.strand(2), -1);
    due("strand(-1)", x.strand(-1), -1);
    due("strand least", x.strand(Integer.MIN_VALUE), -1);
    x.let(1, 3);
    due("let", x.strand(1), 3);
    due("without a hall", new ChairCane().strand(0), -1);
    promise = "8 chair";
    due("height", x.chair(0, 0), 15);
    due("strand", x.chair(2, 1), 1);
    due("sitter", x.chair(0, 2), 1);
    due("nobody's", x.chair(3, 2), -1);
    due("nobody's gives", x.chair(3, 3), 0);
    x.let(1, 9);
    x.sit(2);
    due("gives", x.chair(2, 3), 9);
    x.let(0, 19);
    x.let(0, 11);
    x.sit(0);
    due("eleven", x.chair(1, 3), 11);
    x.sit(1);
    due("six of ten of eleven", x.chair(1, 3), 6);
    due("four of ten of eleven", x.chair(0, 3), 4);
    x.let(0, 19);
    due("downwards", x.chair(1, 3), 11);
    due("downwards too", x.chair(0, 3), 7);
    x.rise(0);
    due("who rose, and drops the other", x.chair(1, 3), 0);
    due("who is dropped", x.chair(0, 3), 0);
    due("chair(4, 0)", x.chair(4, 0), -2);
    due("chair(-1, 0)", x.chair(-1, 0), -2);
    due("chair(0, 4)", x.chair(0, 4), -2);
    due("chair(0, -1)", x.chair(0, -1), -2);
    promise = "9 sitter";
    due("chair", x.sitter(0, 0), 1);
    due("weight", x.sitter(0, 1), 6);
    due("stands", x.sitter(0, 2), 0);
    due("sits", x.sitter(2, 2), 1);
    due("dropped", x.sitter(1, 2), 2);
    due("sitter(3, 0)", x.sitter(3, 0), -1);
    due("sitter(-1, 0)", x.sitter(-1, 0), -1);
    due("sitter(0, 3)", x.sitter(0, 3), -1);
    due("sitter(0, -1)", x.sitter(0, -1), -1);
  }

  private static void acts() {
    minute();
    sitAndRise();
    help();
    let();
    undo();
  }

  private static void minute() {
    promise = "10 minute";
    ChairCane x = with(HALL, "sit 1");
    due("all sit, two fall", x.minute(), 3);
    due("who sits", x.count(6), 4);
    due("who is dropped", x.count(7), 3);
    due("minute", x.count(5), 1);
    due("none more", x.minute(), 0);
    due("dropped stay so", x.count(7), 3);
    ChairCane y = with(CALM, "sit minute%2");
    for (int k = 0; k < 99; k++) y.minute();
    due("minute 99", y.count(5), 99);
    ChairCane z = with("hall");
    for (int k = 0; k < 400; k++) z.minute();
    z.image(0);
    due("no more than 512 calls", z.count(5), 400);
    due("without a hall", new ChairCane().minute(), -1);
    // an image does not shorten the way to 999, so this one object is called more often than is promised
    for (int k = 400; k < 999; k++) z.minute();
    due("at 999", z.minute(), -1);
    due("it stays", z.count(5), 999);
    due("twenty acts", z.undo(), 19);
    due("at 998", z.minute(), 0);
    due("asked beyond", z.ahead(0, 100, 2), 0);
  }

  private static void sitAndRise() {
    promise = "11 sit";
    ChairCane x = with(HALL);
    due("nine on ten", x.sit(2), 0);
    due("sits already", x.sit(2), -1);
    due("twenty on twelve", x.sit(0), 1);
    due("dropped", x.sit(0), -1);
    due("sit(3)", x.sit(3), -1);
    due("sit(-1)", x.sit(-1), -1);
    due("without a hall", new ChairCane().sit(0), -1);
    // 30 to 10 and 10: 15 each; the low one falls at 15, then the other gets 30
    ChairCane y = with("hall;strand 14;chair 15 0;chair 25 0;sitter 0 10;sitter 1 10");
    due("alone", y.sit(0), 0);
    due("two", y.sit(1), 0);
    due("both fall one behind the other", y.let(0, 30), 3);
    // 24 to one alone would be dropped; a second who sits down helps only one who is not
    ChairCane z = with("hall;strand 20;chair 21 0;chair 5 0;sitter 0 10;sitter 1 10");
    due("twenty on twenty-one", z.sit(0), 0);
    due("ten on five", z.sit(1), 2);
    due("the first sits on", z.count(6), 1);
    promise = "12 rise";
    ChairCane r = with(HALL);
    r.let(0, 11);
    r.sit(0);
    r.sit(1);
    r.let(0, 19);
    due("nobody falls yet", r.count(7), 0);
    due("rises, the other gets 19", r.rise(0), 2);
    due("stands", r.rise(0), -1);
    due("dropped", r.rise(1), -1);
    due("stood at first", r.rise(2), -1);
    due("rise(3)", r.rise(3), -1);
    due("rise(-1)", r.rise(-1), -1);
    r.sit(2);
    due("rises alone", r.rise(2), 0);
    due("none sits", r.count(6), 0);
  }

  private static void help() {
    promise = "13 help";
    ChairCane x = with(HALL, "sit 1");
    x.minute();
    due("help(0)", x.help(0), 1);
    due("stands", x.sitter(0, 2), 0);
    due("help(0) again", x.help(0), -1);
    due("one who sits", x.help(2), -1);
    due("help(1)", x.help(1), 0);
    due("help(3)", x.help(3), -1);
    due("help(-1)", x.help(-1), -1);
    due("acts", x.count(10), 3);
    due("two fall again", x.minute(), 3);
  }

  private static void let() {
    promise = "14 let";
    ChairCane x = with(HALL);
    due("the same", x.let(0, 20), -1);
    due("100", x.let(0, 100), -1);
    due("-1", x.let(0, -1), -1);
    due("strand 2", x.let(2, 5), -1);
    due("strand -1", x.let(-1, 5), -1);
    due("no act", x.count(10), 0);
    due("0", x.let(0, 0), 0);
    due("99", x.let(0, 99), 0);
    x.let(0, 11);
    x.sit(0);
    due("gives its height", x.let(0, 12), 1);
    due("who sits elsewhere", x.sit(2), 0);
    due("ten on ten", x.let(1, 10), 4);
    due("without a hall", new ChairCane().let(0, 1), -1);
  }

  private static void undo() {
    promise = "15 undo";
    ChairCane x = with(HALL, "sit 1");
    due("none", x.undo(), -2);
    x.sit(2);
    x.rise(2);
    x.let(0, 5);
    x.minute();
    x.let(0, 99);
    x.help(0);
    due("six", x.count(10), 6);
    due("help", x.undo(), 5);
    due("dropped again", x.count(7), 3);
    due("let", x.undo(), 4);
    due("cane", x.strand(0), 5);
    due("nobody dropped", x.count(7), 0);
    due("who sits", x.count(6), 7);
    due("gives as it did", x.count(8), 3 + 2 + 9);
    x.force(-1);
    x.seed(5);
    x.note(0, 0, 0);
    due("minute", x.undo(), 3);
    due("minute 0", x.count(5), 0);
    due("none sits", x.count(6), 0);
    due("the rule stays", x.count(4), -1);
    due("x stays", x.count(11), 5);
    due("notes stay", x.count(9), 1);
    due("let", x.undo(), 2);
    due("cane", x.strand(0), 20);
    due("rise", x.undo(), 1);
    due("sits", x.count(6), 4);
    due("sit", x.undo(), 0);
    due("stands", x.count(6), 0);
    due("none", x.undo(), -2);
    ChairCane y = with(CALM);
    for (int k = 0; k < 25; k++) y.minute();
    due("twenty at most", y.count(10), 20);
    for (int k = 19; k >= 0; k--) due("undo", y.undo(), k);
    due("none more", y.undo(), -2);
    due("minute 5", y.count(5), 5);
    y.minute();
    due("one again", y.count(10), 1);
    due("refused acts do not count", y.rise(0), -1);
    due("still one", y.undo(), 0);
  }

  private static void goingOn() {
    ahead();
    falls();
    ring();
    toasts();
  }

  private static void ahead() {
    promise = "16 ahead";
    ChairCane x = with(HALL, "sit 1 if sitter=2;sit minute-2");
    due("now", x.ahead(0, 0, 0), 0);
    due("behind three", x.ahead(0, 3, 0), 0);
    due("behind four", x.ahead(0, 4, 0), 2);
    due("how many behind three", x.ahead(0, 3, 2), 0);
    due("how many behind four", x.ahead(0, 4, 2), 2);
    due("sits", x.ahead(2, 1, 0), 1);
    due("gives", x.ahead(2, 1, 1), 9);
    due("gives now", x.ahead(2, 0, 1), 0);
    due("dropped gives", x.ahead(0, 100, 1), 0);
    due("nobody asked", x.ahead(-5, 100, 2), 2);
    due("nothing changed", x.count(5) + x.count(6) + x.count(7) + x.count(10), 0);
    due("101", x.ahead(0, 101, 0), -1);
    due("-1", x.ahead(0, -1, 0), -1);
    due("sitter 3", x.ahead(3, 1, 0), -1);
    due("sitter -1", x.ahead(-1, 1, 1), -1);
    due("what 3", x.ahead(0, 1, 3), -1);
    due("what -1", x.ahead(0, 1, -1), -1);
    due("101 of many", x.ahead(0, 101, 2), -1);
    due("without a hall", new ChairCane().ahead(0, 0, 2), -1);
  }

  private static void falls() {
    promise = "17 falls";
    ChairCane x = with(HALL, "sit 1 if sitter=2;sit minute-2", "sit minute-198", "sit minute-199");
    due("when", x.falls(0), 3);
    due("who", x.falls(1), 3);
    x.minute();
    due("a minute later", x.falls(0), 3);
    due("what 2", x.falls(2), -1);
    due("what -1", x.falls(-1), -1);
    x.undo();
    x.force(1);
    due("the 200th", x.falls(0), 199);
    x.force(2);
    due("the 201st", x.falls(0), -2);
    due("who", x.falls(1), -2);
    x.minute();
    due("now it is the 200th", x.falls(0), 200);
    x.force(-1);
    due("without a rule", x.falls(0), -2);
    due("without a hall", new ChairCane().falls(0), -1);
    ChairCane y = with(HALL, "sit 1");
    due("this one is the first", y.falls(0), 0);
  }

  private static void ring() {
    promise = "26 ring";
    ChairCane x = with(CALM, "sit minute%3", "sit 1 if minute>=2;sit minute");
    // behind minute 0 none, behind 1 and 2 all, and so on
    due("when", x.ring(0), 0);
    due("how much later", x.ring(1), 1);
    x.minute();
    x.minute();
    x.minute();
    due("at 3 all sit, at 4 none, none at 4 alone", x.ring(0), 3);
    due("the first such", x.ring(1), 2);
    due("what 2", x.ring(2), -1);
    due("what -1", x.ring(-1), -1);
    due("without a hall", new ChairCane().ring(0), -1);
    String six = "hall;strand 0" + times(";chair 5 0", 6) + ";sitter 0 1;sitter 1 1;sitter 2 1;sitter 3 1;sitter 4 1;sitter 5 1";
    StringBuilder bits = new StringBuilder();
    for (int k = 0; k < 6; k++) bits.append(k == 0 ? "" : ";").append("sit minute/" + (1 << k) + "%2 if sitter=" + k);
    ChairCane y = with(six, bits.toString(), "sit 2-sitter if minute=60;" + bits, "sit 2-sitter if minute=61;" + bits);
    y.minute();
    // at the begin of minute k the sitters are the bits of k - 1: all of 1 to 61 are unlike
    due("none in sixty", y.ring(0), -2);
    due("none in sixty, how much", y.ring(1), -2);
    // at the begin of 61 they are 3, as at the begin of 4
    y.force(1);
    due("the last that counts", y.ring(0), 4);
    due("57 later", y.ring(1), 57);
    y.force(2);
    due("61 minutes from now", y.ring(0), -2);
    y.undo();
    due("0 and 1 are alike", y.ring(0), 0);
    due("one later", y.ring(1), 1);
  }

  private static void toasts() {
    promise = "32 toasts";
    ChairCane x = with(CALM);
    due("0 is below 1, 21468 mod 3 is 0", x.toasts(1, 1, 1, 1), 1);
    due("nothing is below 0", x.toasts(10, 60, 0, 1), 0);
    // draws from 1: 16838, 5758, 10113, 17515, 31051, 5627
    x.seed(1);
    due("38 is below 39, 1 sits down", x.toasts(1, 1, 39, 1), 1);
    due("38 is not below 38", x.toasts(1, 1, 38, 1), 0);
    due("13 is, too, 1 rises", x.toasts(1, 2, 39, 1), 0);
    due("51 is below 52, 2 sits down", x.toasts(1, 3, 52, 1), 1);
    due("51 is not below 51", x.toasts(1, 3, 51, 1), 0);
    due("x goes on from time to time, the hall does not", x.toasts(2, 1, 39, 1), 2);
    due("38 and 58 are not below 38", x.toasts(2, 1, 38, 1), 0);
    due("x is as it was", x.count(11), 1);
    due("nothing changed", x.count(6) + x.count(5), 0);
    ChairCane y = with(HALL);
    y.seed(1);
    due("1 falls, is drawn again, 2 sits down", y.toasts(1, 3, 100, 0), 1);
    due("2 sits", y.toasts(1, 3, 100, 1), 1);
    y.sit(2);
    due("2 rises", y.toasts(1, 3, 100, 1), 0);
    ChairCane z = with(CALM, "sit 1");
    due("by the rule", z.toasts(3, 4, 0, 1), 9);
    due("m 0", x.toasts(0, 1, 1, 0), -1);
    due("m 11", x.toasts(11, 1, 1, 0), -1);
    due("n 0", x.toasts(1, 0, 1, 0), -1);
    due("n 61", x.toasts(1, 61, 1, 0), -1);
    due("p -1", x.toasts(1, 1, -1, 0), -1);
    due("p 101", x.toasts(1, 1, 101, 0), -1);
    due("what 2", x.toasts(1, 1, 1, 2), -1);
    due("what -1", x.toasts(1, 1, 1, -1), -1);
    due("most of all", x.toasts(10, 60, 100, 0), 0);
    due("without a hall", new ChairCane().toasts(1, 1, 1, 0), -1);
    due("without sitters", with("hall").toasts(10, 60, 100, 1), 0);
  }

  /** Three of weights 5, 5, 10 on a strand of 40, heights 20, 30, 40: 10, 10, 20. */
  private static ChairCane three() {
    ChairCane x = with("hall;strand 10;strand 7;chair 20 0;chair 30 0;chair 41 0;chair 5 1;"
        + "sitter 0 5;sitter 1 5;sitter 2 10;sitter 3 1");
    x.sit(0);
    x.sit(1);
    x.sit(2);
    x.let(0, 40);
    return x;
  }

  private static void bearing() {
    felledAndTall();
    ease();
    way();
    most();
    heavy();
    rests();
    pence();
  }

  private static void felledAndTall() {
    promise = "18 felled";
    ChairCane x = three();
    // without 0: 13 and 26; without 1: 13 and 26; without 2: 20 and 20, 0 falls, then 1 at 40
    due("felled(0)", x.felled(0), 0);
    due("felled(1)", x.felled(1), 0);
    due("felled(2)", x.felled(2), 3);
    due("stands", x.felled(3), -1);
    due("felled(4)", x.felled(4), -1);
    due("felled(-1)", x.felled(-1), -1);
    due("nothing changed", x.count(6), 7);
    promise = "19 tall";
    due("who", x.tall(0), 2);
    due("how many", x.tall(1), 2);
    due("what 2", x.tall(2), -1);
    due("what -1", x.tall(-1), -1);
    due("nobody sits", with(HALL).tall(0), -2);
    due("nobody sits, how many", with(HALL).tall(1), -2);
    due("without a hall", new ChairCane().tall(0), -1);
    ChairCane y = with(CALM);
    y.sit(2);
    y.sit(1);
    due("the least", y.tall(0), 1);
    y.sit(0);
    due("the least of all", y.tall(0), 0);
    due("none felled", y.tall(1), 0);
    x.rise(2);
    due("dropped", x.felled(0), -1);
  }

  private static void ease() {
    promise = "20 ease";
    ChairCane x = with(HALL);
    // 0 and 1 fall even together; 2 can
    due("how many", x.ease(0), 1);
    due("the set", x.ease(1), 4);
    x.sit(2);
    due("none", x.ease(0), 0);
    due("no set", x.ease(1), 0);
    ChairCane y = with("hall;strand 10;chair 6 0;chair 6 0;chair 6 0;sitter 0 10;sitter 1 10;sitter 2 1");
    // 0 and 1: 5, 5; with 2: 4, 4, 0; alone each falls
    due("all at once", y.ease(0), 3);
    due("all", y.ease(1), 7);
    ChairCane z = with("hall;strand 10;chair 6 0;chair 6 0;chair 6 0;chair 2 0;sitter 3 10;sitter 2 10;sitter 0 10;sitter 1 10");
    // four have 2 each, at which the low one falls: three of 1, 2, 3
    due("all but one", z.ease(0), 3);
    due("the three", z.ease(1), 14);
    ChairCane w = with("hall;strand 10;strand 10;chair 10 0;chair 11 1;chair 11 0;sitter 0 1;sitter 1 1;sitter 2 1");
    // 0 and 2 have 5 each, and 1 has 10 alone
    due("by strands", w.ease(1), 7);
    ChairCane v = with("hall;strand 10;strand 10;chair 1 0;chair 1 0;chair 11 0;chair 11 0;sitter 3 1;sitter 2 20;sitter 1 1;sitter 0 1");
    // 1 alone has 10, 0 alone too; 0 and 1 have 0 and 9; with 2 or 3 too, 0 each: all can
    due("weight spares", v.ease(0), 4);
    ChairCane same = with("hall;strand 12;chair 12 0;chair 9 0;chair 9 0;sitter 0 2;sitter 1 4;sitter 2 4");
    // 0 alone falls; 0 and another: 4 and 8; all: 2, 4, 4
    due("all three", same.ease(1), 7);
    same.let(0, 24);
    // 1 and 2: 12 each; all: 4, 9, 9
    due("nobody", same.ease(0), 0);
    due("the empty set", same.ease(1), 0);
    ChairCane least = with("hall;strand 5;strand 5;chair 6 0;chair 6 1;chair 1 0;chair 1 1;sitter 0 1;sitter 1 1;sitter 2 1;sitter 3 1");
    // 0 and 1 can; 2 beside 0 has 2 on 1; 3 beside 1 too
    due("two of four", least.ease(1), 3);
    due("what 2", x.ease(2), -1);
    due("what -1", x.ease(-1), -1);
    due("without a hall", new ChairCane().ease(0), -1);
    ChairCane u = with("hall;strand 99;strand 5;chair 50 0;chair 40 0;chair 50 0;sitter 0 10;sitter 1 10;sitter 2 10");
    // two have 49 each, three have 33 each
    due("three", u.ease(1), 7);
    u.let(0, 60);
    u.sit(1);
    due("60 on 40", u.count(7), 2);
    due("the dropped stays so", u.ease(1), 5);
  }

  private static void way() {
    promise = "21 way";
    ChairCane x = three();
    // 2 alone at the end would have 40 on 41, 0 alone 40 on 20, 1 alone 40 on 30
    due("first", x.way(0), 0);
    due("second", x.way(1), 1);
    due("third", x.way(2), 2);
    due("fourth", x.way(3), -1);
    due("eighth", x.way(7), -1);
    due("ninth", x.way(8), -3);
    due("what -1", x.way(-1), -3);
    due("without a hall", new ChairCane().way(0), -3);
    due("none sits", with(HALL).way(0), -1);
    due("nothing changed", x.count(6), 7);
    ChairCane y = with("hall;strand 5;chair 30 0;chair 11 0;chair 21 0;sitter 0 1;sitter 1 1;sitter 2 1");
    y.sit(0);
    y.sit(1);
    y.sit(2);
    y.let(0, 24);
    // 8 each; two have 12, so 1 must be the first; then 0 or 2 alone has 24: 0 must be the last
    due("first", y.way(0), 1);
    due("second", y.way(1), 2);
    due("third", y.way(2), 0);
    y.let(0, 32);
    // the last one has 32: no row
    due("no row", y.way(0), -2);
    due("no row, second", y.way(1), -2);
  }

  private static void most() {
    promise = "22 most";
    ChairCane x = three();
    // 0 has a fourth and falls at 20, that is at 80; 1 at 120; 2 has a half and falls at 82
    due("most(0)", x.most(0), 79);
    due("most(1)", x.most(1), 99);
    due("most(2)", x.most(2), -1);
    due("most(-1)", x.most(-1), -1);
    due("nothing changed", x.strand(0), 40);
    due("without a hall", new ChairCane().most(0), -1);
    ChairCane y = with("hall;strand 0;chair 1 0;sitter 0 20");
    y.sit(0);
    due("0 at least", y.most(0), 0);
  }

  private static void heavy() {
    promise = "23 heavy";
    ChairCane x = three();
    // 2 with w: 0 and 1 have 200/(10+w), which is below 20 if w is above 0; 40w/(10+w) is below 41 always
    due("all", x.heavy(2, 0), 20);
    due("the least", x.heavy(2, 1), 1);
    // 0 with w: 40w/(15+w) is below 20 if w is below 15
    due("below 15", x.heavy(0, 0), 14);
    due("from 1 on", x.heavy(0, 1), 1);
    // 3 stands; sits down alone, 7 on 5
    due("none", x.heavy(3, 0), 0);
    due("no least", x.heavy(3, 1), -2);
    due("nothing changed", x.count(6), 7);
    due("what 2", x.heavy(0, 2), -1);
    due("what -1", x.heavy(0, -1), -1);
    due("sitter 4", x.heavy(4, 0), -1);
    due("sitter -1", x.heavy(-1, 0), -1);
    x.sit(3);
    due("dropped", x.heavy(3, 0), -1);
    ChairCane z = with("hall;strand 11;chair 12 0;chair 60 0;sitter 0 10;sitter 1 10");
    z.sit(0);
    z.sit(1);
    z.let(0, 20);
    // 200/(10+w) is below 12 if w is 7 or more
    due("how many", z.heavy(1, 0), 14);
    due("the least", z.heavy(1, 1), 7);
  }

  private static void rests() {
    promise = "25 rests";
    ChairCane x = with("hall;strand 12;chair 10 0;chair 10 0;sitter 0 5;sitter 1 5");
    due("both or none", x.rests(0, 1, 1, 0), 2);
    due("none first", x.rests(0, 1, 1, 1), 0);
    due("none first", x.rests(0, 1, 1, 2), 0);
    ChairCane y = with("hall;strand 25;strand 25;chair 60 0;chair 20 0;chair 60 1;sitter 0 5;sitter 1 5;sitter 2 1", "sit 0");
    // 0 sits always; 1 then has 12: one for sitting, one for ten
    due("one", y.rests(0, 1, 3, 0), 1);
    due("first sits", y.rests(0, 1, 3, 1), 1);
    due("second sits", y.rests(0, 1, 3, 2), 1);
    due("the other way round", y.rests(1, 0, 3, 0), 1);
    due("nothing changed", y.count(5) + y.count(6), 0);
    // apart: both sit, each has 1 and 2 for 25
    due("apart", y.rests(0, 2, 20, 0), 1);
    ChairCane z = with("hall;strand 30;chair 15 0;chair 30 0;sitter 0 5;sitter 1 5", "sit 1");
    // both: 15 and 15, 0 falls, then 1 at 30; 0 alone falls; 1 alone falls: less 10 each, so none
    due("none sits", z.rests(0, 1, 1, 0), 1);
    due("stands", z.rests(0, 1, 1, 1), 0);
    due("stands too", z.rests(0, 1, 1, 2), 0);
    // for 20: who falls in the first minute has -10
    due("for long", z.rests(0, 1, 20, 1), 0);
    ChairCane late = with("hall;strand 20;chair 15 0;chair 9 0;chair 60 0;sitter 0 10;sitter 1 1;sitter 2 10",
        "sit 1 if minute<15;sit 0");
    // 2 sits for 15 minutes; then 0 alone has 20 or 19 on 15 and falls, with 15 behind it: 15 - 10 is above 0
    due("once less 10", late.rests(0, 1, 16, 1), 1);
    late.minute();
    due("fewer minutes", late.rests(0, 1, 20, 1), 1);
    ChairCane none = with("hall;strand 30;chair 11 0;chair 31 0;sitter 0 5;sitter 1 20");
    // 0 alone falls; 0 with 1: 6, fine; 1 alone: 30: 4; 1 with 0: 24: 3; 1 sits always, and so 0
    due("both sit", none.rests(0, 1, 1, 0), 1);
    due("both", none.rests(0, 1, 1, 1) + 2 * none.rests(0, 1, 1, 2), 3);
    ChairCane chase = with("hall;strand 40;chair 21 0;chair 40 0;sitter 0 10;sitter 1 10", "sit 0");
    // 0 sits only if 1 does; 1 alone falls at 40, with 0 has 20: both or none
    due("two", chase.rests(0, 1, 1, 0), 2);
    due("alike", y.rests(0, 0, 1, 0), -1);
    due("n 0", y.rests(0, 1, 0, 0), -1);
    due("n 21", y.rests(0, 1, 21, 0), -1);
    due("what 3", y.rests(0, 1, 1, 3), -1);
    due("what -1", y.rests(0, 1, 1, -1), -1);
    due("sitter 3", y.rests(0, 3, 1, 0), -1);
    due("sitter -1", y.rests(-1, 0, 1, 0), -1);
    x.sit(0);
    due("dropped", x.rests(0, 1, 1, 0), -1);
    due("dropped the other", x.rests(1, 0, 1, 0), -1);
    due("without a hall", new ChairCane().rests(0, 1, 1, 0), -1);
    noRest();
    leanRest();
  }

  private static void leanRest() {
    // 0 falls by itself, 1 (on another strand) does not
    ChairCane x = with("hall;strand 9;strand 9;chair 9 0;chair 10 1;sitter 0 1;sitter 1 1");
    due("one", x.rests(0, 1, 1, 0), 1);
    due("0 stands", x.rests(0, 1, 1, 1), 0);
    due("1 sits", x.rests(0, 1, 1, 2), 1);
    due("1 sits, asked first", x.rests(1, 0, 1, 1), 1);
    due("0 stands, asked second", x.rests(1, 0, 1, 2), 0);
    // 2 sits for ten minutes beside 0, who falls in the next: 10 less 10 is as much as nothing
    ChairCane y = with("hall;strand 9;strand 9;chair 9 0;chair 10 1;chair 10 0;sitter 0 1;sitter 1 1;sitter 2 1", "sit 10-minute");
    due("two as good", y.rests(0, 1, 20, 0), 2);
    due("stands first", y.rests(0, 1, 20, 1), 0);
    due("1 sits", y.rests(0, 1, 20, 2), 1);
    due("two as good, asked second", y.rests(1, 0, 20, 0), 2);
    due("ten minutes are better", y.rests(0, 1, 10, 0), 1);
    due("0 sits then", y.rests(0, 1, 10, 1), 1);
  }

  /** 0 wants to do as 1 does, and 1 to do other than 0, for those whom the rule lets sit with them. */
  private static void noRest() {
    ChairCane x = with("hall;strand 50;chair 50 0;chair 10 0;chair 60 0;chair 60 0;sitter 0 1;sitter 1 2;sitter 2 4;sitter 3 20",
        "sit 1 if sitter=2 and press=3;sit 1 if sitter=3 and press=2");
    // 0 alone has 50 and falls; 1 has 4 beside 3; both have 7 and 14 beside 2: 1 falls, and 0 has 10
    due("no two", x.rests(0, 1, 1, 0), 0);
    due("no first", x.rests(0, 1, 1, 1), -2);
    due("no first", x.rests(0, 1, 1, 2), -2);
    due("what 3", x.rests(0, 1, 1, 3), -1);
  }

  private static void pence() {
    promise = "27 pence";
    ChairCane x = three();
    // 10, 10, 20 of 40
    due("nothing of 0", x.pence(0, 0), 0);
    due("40: 10", x.pence(40, 0), 10);
    due("40: 20", x.pence(40, 2), 20);
    // of 1: a fourth, a fourth, a half is lost: 2 has it
    due("1: 0", x.pence(1, 0), 0);
    due("1: 2", x.pence(1, 2), 1);
    // of 2: a half, a half, nothing: left is 1, the least has it
    due("2: 0", x.pence(2, 0), 1);
    due("2: 1", x.pence(2, 1), 0);
    due("2: 2", x.pence(2, 2), 1);
    // of 3: three fourths, three fourths, 1 and a half: left 2
    due("3: 0", x.pence(3, 0), 1);
    due("3: 1", x.pence(3, 1), 1);
    due("3: 2", x.pence(3, 2), 1);
    due("who stands", x.pence(9999, 3), 0);
    due("9999: 0", x.pence(9999, 0), 2500);
    due("9999: 1", x.pence(9999, 1), 2500);
    due("9999: 2", x.pence(9999, 2), 4999);
    due("10000", x.pence(10000, 0), -1);
    due("-1", x.pence(-1, 0), -1);
    due("sitter 4", x.pence(1, 4), -1);
    due("sitter -1", x.pence(1, -1), -1);
    due("none gives", with(HALL).pence(100, 0), 0);
    due("without a hall", new ChairCane().pence(1, 0), -1);
  }

  private static void notes() {
    promise = "28 note";
    ChairCane x = with(CALM);
    due("first", x.note(0, 0, 0), 1);
    due("61", x.note(61, 0, 0), -2);
    due("-2", x.note(-2, 0, 0), -2);
    due("sitter 3", x.note(0, 3, 0), -2);
    due("sitter -1", x.note(0, -1, 0), -2);
    due("state 3", x.note(0, 0, 3), -2);
    due("state -1", x.note(0, 0, -1), -2);
    for (int k = 2; k <= 10; k++) due("note", x.note(60, 2, 2), k);
    due("eleventh", x.note(0, 0, 0), -2);
    due("ten", x.count(9), 10);
    due("none then", x.note(-1, 99, 99), 0);
    due("none", x.count(9), 0);
    due("no act", x.count(10), 0);
    due("none without a hall", new ChairCane().note(-1, 0, 0), 0);
    due("without a hall", new ChairCane().note(0, 0, 0), -2);
    strung();
    ruled();
    look();
  }

  private static void strung() {
    promise = "24 strung";
    ChairCane x = with("hall;strand 10;strand 20;strand 5;chair 20 0;chair 20 0;sitter 0 5;sitter 1 15", "sit 1");
    due("all without notes", x.strung(0), 7);
    // both on 0: 2 and 7; 0 on 1 alone has 20 and falls; 0 on 2 alone has 5
    x.note(1, 0, 1);
    due("sits", x.strung(0), 5);
    x.note(-1, 0, 0);
    x.note(3, 0, 2);
    due("falls", x.strung(0), 2);
    due("the other chair never drops 0", x.strung(1), 0);
    x.let(1, 3);
    due("as the text told it", x.strung(0), 2);
    x.sit(0);
    x.minute();
    due("from the begin on", x.strung(0), 2);
    x.force(-1);
    due("by the rule in force", x.strung(0), 0);
    due("chair 2", x.strung(2), -1);
    due("chair -1", x.strung(-1), -1);
    due("without a hall", new ChairCane().strung(0), -1);
    ChairCane y = with("hall;strand 10;strand 20;chair 20 0;chair 9 1;sitter 0 5", "sit 1");
    y.note(2, 0, 1);
    due("a chair that is nobody's", y.strung(1), 3);
    y.note(0, 0, 1);
    due("never so", y.strung(1), 0);
  }

  private static void ruled() {
    promise = "29 ruled";
    ChairCane x = with(CALM, "sit 1", "sit sitter", "sit 0", "sit minute");
    due("all and none", x.ruled(0), 5);
    due("none is the first", x.ruled(1), -1);
    x.note(1, 1, 1);
    due("0 and 1", x.ruled(0), 2);
    due("0 first", x.ruled(1), 0);
    x.note(1, 0, 0);
    due("1 alone", x.ruled(0), 1);
    due("1", x.ruled(1), 1);
    x.note(1, 0, 1);
    due("both can't be", x.ruled(0), 0);
    due("none such", x.ruled(1), -2);
    x.note(-1, 0, 0);
    x.note(60, 0, 1);
    x.note(1, 0, 0);
    due("minute", x.ruled(0), 1);
    due("3", x.ruled(1), 3);
    due("what 2", x.ruled(2), -3);
    due("what -1", x.ruled(-1), -3);
    due("without a hall", new ChairCane().ruled(0), -3);
    ChairCane y = with("hall;strand 9;chair 9 0;sitter 0 1", "sit 1");
    y.let(0, 8);
    y.note(1, 0, 2);
    due("as the text told it", y.ruled(1), 0);
    y.sit(0);
    due("from the begin on", y.ruled(0), 1);
  }

  private static void look() {
    promise = "30 look";
    ChairCane x = with(CALM, "sit 1", "sit sitter", "sit sitter-1", "sit minute");
    // behind the first minute: none 000, 111, 011, 001, 000 (sitters 0, 1, 2)
    due("at 1: 0 parts 4 to 1, 1 parts 3 to 2, 2 parts 2 to 3", x.look(1, 0), 1);
    due("three", x.look(1, 1), 3);
    due("at 0 all stand", x.look(0, 0), 0);
    due("five", x.look(0, 1), 5);
    // at 2: 000, 111, 011, 001, 111
    due("at 2: 3 to 2, 2 to 3, 1 to 4", x.look(2, 0), 0);
    due("three", x.look(2, 1), 3);
    x.note(1, 2, 0);
    due("none and minute, at 60", x.look(60, 1), 1);
    due("who", x.look(60, 0), 0);
    x.note(0, 2, 1);
    due("none is so", x.look(0, 0), -2);
    due("none is so", x.look(0, 1), -2);
    due("61", x.look(61, 0), -1);
    due("-1", x.look(-1, 0), -1);
    due("what 2", x.look(0, 2), -1);
    due("what -1", x.look(0, -1), -1);
    due("without a hall", new ChairCane().look(0, 0), -1);
    due("without sitters", with("hall;strand 1;chair 1 0").look(0, 0), -2);
    ChairCane y = with("hall;strand 9;strand 8;chair 9 0;chair 9 1;sitter 0 1;sitter 1 1", "sit 1");
    due("2 is a state of its own", y.look(1, 1), 1);
    due("of several the least", y.look(1, 0), 0);
  }

  private static void rest() {
    promise = "31 seed";
    ChairCane x = new ChairCane();
    due("0 at first", x.seed(5), 0);
    due("0", x.seed(0), 5);
    due("0 it was", x.seed(5), 0);
    due("what it was", x.seed(Integer.MAX_VALUE), 5);
    due("below 0", x.seed(-1), -1);
    due("least", x.seed(Integer.MIN_VALUE), -1);
    due("stays", x.count(11), Integer.MAX_VALUE);
    hall(x, CALM);
    // draws 15929 and 4409
    due("draws from there", x.toasts(1, 1, 30, 1), 1);
    due("29 is not below 29", x.toasts(1, 1, 29, 1), 0);
    counts();
    images();
  }

  private static void counts() {
    promise = "33 count";
    ChairCane x = three();
    rule(x, "sit 1");
    x.force(0);
    x.seed(9);
    x.note(0, 0, 0);
    x.feed(1, 2, 3, 4, 5);
    x.sit(3);
    int[] want = {2, 4, 4, 1, 0, 0, 7, 8, 40, 1, 5, 9, 20};
    for (int what = 0; what < want.length; what++) due("count(" + what + ")", x.count(what), want[what]);
    x.minute();
    due("minute", x.count(5), 1);
    due("count(13)", x.count(13), -1);
    due("count(-1)", x.count(-1), -1);
    due("count most", x.count(Integer.MAX_VALUE), -1);
  }

  private static void images() {
    promise = "34 image";
    ChairCane x = three();
    due("image(4)", x.image(4), -1);
    due("image(-1)", x.image(-1), -1);
    due("image(0)", x.image(0), 0);
    rule(x, "sit 0");
    x.force(0);
    x.seed(3);
    x.note(4, 1, 1);
    x.minute();
    due("image(3)", x.image(3), 1);
    promise = "35 back";
    due("never made", x.back(1), -1);
    due("back(4)", x.back(4), -1);
    due("back(-1)", x.back(-1), -1);
    x.feed(1, 2, 3, 4, 5);
    due("back(0)", x.back(0), 0);
    due("who sits", x.count(6), 7);
    due("gives", x.count(8), 40);
    due("no rule in force", x.count(4), -1);
    due("the rule stays", x.count(3), 1);
    due("the tape stays", x.count(12), 20);
    due("x", x.count(11), 0);
    due("no notes", x.count(9), 0);
    due("acts", x.count(10), 4);
    due("undo", x.undo(), 3);
    due("the first cane", x.strand(0), 10);
    due("back(3)", x.back(3), 1);
    due("none sits", x.count(6), 0);
    due("rule", x.count(4), 0);
    due("x 3", x.count(11), 3);
    due("a note", x.count(9), 1);
    due("undo", x.undo(), 4);
    due("sit again", x.count(6), 7);
    due("cane", x.strand(0), 40);
    due("the image is whole", x.back(3), 1);
    due("acts of it", x.count(10), 5);
    hall(x, CALM);
    due("another hall", x.count(2), 3);
    due("back to the old hall", x.back(0), 0);
    due("its sitters", x.count(2), 4);
    due("made anew", x.image(3), 0);
    due("is so then", x.back(3), 0);
    due("acts", x.count(10), 4);
    ChairCane y = new ChairCane();
    y.image(1);
    hall(y, CALM);
    due("back to no hall", y.back(1), 0);
    due("no hall", y.minute(), -1);
    due("no sitters", y.count(2), 0);
  }
}
