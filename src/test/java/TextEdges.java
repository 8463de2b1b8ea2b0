import java.util.function.Consumer;

/** The sentences about texts: the tape, halls, rules, their limits and their faults (promises 1 to 6). */
final class TextEdges {
  private static final String SIXTY = "sit 1" + "+1".repeat(59);
  private static final Consumer<ChairCane> SIX_RULES = x -> {
    Check.BUSY.accept(x);
    for (int k = 3; k < 6; k++) Check.rule(x, "sit sitter-" + k);
    Check.tell(x, "sit 5");
  };

  private TextEdges() {}

  static void run() {
    newObject();
    feed();
    end();
    hallText();
    hallNumbers();
    hallCounts();
    hallCall();
    ruleText();
    ruleSigns();
    ruleValues();
    ruleWords();
    ruleSums();
    blanks();
    deep();
    sixty();
    faultPlaces();
    faultKinds();
    ruleCall();
    force();
  }

  // ---- promises 1 to 3 ----

  private static void newObject() {
    Check.promise(1);
    Check.sentence("No HALL, no RULES, none IN FORCE.");
    ChairCane x = new ChairCane();
    for (int what = 0; what <= 12; what++) Check.due("count(" + what + ")", x.count(what), what == 4 ? -1 : 0);
    Check.due("minute", x.minute(), -1);
    Check.due("force(0)", x.force(0), -2);
    Check.due("force(NONE)", x.force(-1), -1);
    Check.sentence("The constants: `NONE = -1`: None.");
    Check.due("NONE", ChairCane.NONE, -1);
  }

  private static void feed() {
    Check.promise(2);
    Check.sentence("Twenty bytes come behind the TAPE, of each number the highest first: how many it has;");
    ChairCane x = new ChairCane();
    Check.due("feed", x.feed(0x68616c6c, 0x3b737472, 0x616e6420, 0x37203b63, 0x68616972), 20);
    Check.due("feed", x.feed(0x20392030, 0x3b736974, 0x74657220, 0x3020323b, 0x73747261), 40);
    Check.due("feed", x.feed(0x6e642038, 0x20202020, 0x20202020, 0x20202020, 0x20202020), 60);
    Check.due("hall;strand 7 ;chair 9 0;sitter 0 2;strand 8", x.hall(), 1);
    Check.due("the first strand", x.strand(0), 7);
    Check.due("the second strand", x.strand(1), 8);
    x.feed(0x68616c6c, 0x2020ff20, 0x20202020, 0x20202020, 0x20202020);
    Check.due("byte 255 in the third place of a number", x.hall(), Check.fault(6, 0));
    x.feed(0x80202020, 0, 0, 0, 0);
    Check.due("byte 128 ahead", x.hall(), Check.fault(0, 0));
    x.feed(0x68616c6c, 0x20202020, 0x20202020, 0x20202020, 0x20202021);
    Check.due("the twentieth byte", x.hall(), Check.fault(19, 0));
    Check.sentence("NONE, and none comes, if it would have more than 400.");
    for (int k = 1; k <= 20; k++) Check.due("feed " + k, x.feed(-1, 0, 1, 2, 3), 20 * k);
    for (int length : new int[] {381, 382, 399, 400}) {
      Consumer<ChairCane> made = y -> {
        Check.hall(y, Check.CALM);
        Check.tell(y, "sit 1" + " ".repeat(length - 5));
      };
      Check.due("so many", Check.anew(made).count(12), length);
      Check.unchanged("feed at " + length, made, y -> y.feed(0x21212121, 0, 0, 0, 0), -1);
    }
    x.end(380);
    Check.due("feed at 380", x.feed(0, 0, 0, 0, 0), 400);
    x.end(379);
    Check.due("feed at 379", x.feed(0, 0, 0, 0, 0), 399);
  }

  private static void end() {
    Check.promise(3);
    Check.sentence("The TAPE has its first n bytes alone: n;");
    ChairCane x = new ChairCane();
    Check.due("end(0) of none", x.end(0), 0);
    Check.tell(x, "hall;strand 5;strand 6;chair");
    Check.due("end(28) of 28", x.end(28), 28);
    Check.due("end(22)", x.end(22), 22);
    Check.due("how many", x.count(12), 22);
    Check.due("hall of the first 22", x.hall(), 0);
    Check.due("two strands", x.count(0), 2);
    Check.tell(x, "hall!!!!!!");
    x.end(4);
    Check.due("twenty more behind the fourth", x.feed(0x3b737472, 0x616e6420, 0x39202020, 0x20202020, 0x20202020), 24);
    Check.due("hall", x.hall(), 0);
    Check.due("hall;strand 9", x.strand(0), 9);
    Check.sentence("NONE, and nothing happens, if it has not so many, or n is below 0.");
    for (int n : new int[] {25, 26, 400, 401, Integer.MAX_VALUE, -1, -2, Integer.MIN_VALUE}) {
      Check.unchanged("end(" + n + ")", Check.BUSY, y -> y.end(n), -1);
    }
    Check.due("end(24)", Check.anew(Check.BUSY).end(24), 24);
    Check.due("end(1) of none", new ChairCane().end(1), -1);
    x.end(0);
    x.feed(0, 0, 0, 0, 0);
    x.end(3);
    Check.due("what is cut off is gone", x.end(4), -1);
  }

  // ---- halls ----

  private static void hallText() {
    Check.promise(4);
    Check.sentence("A HALL is a text of at most 400 bytes:");
    Check.hallTaken("hall" + " ".repeat(396), 0);
    Check.hallTaken(" ".repeat(396) + "hall", 0);
    Check.hallTaken("hall;strand 1;chair 1 0;sitter" + " ".repeat(367) + "0 1", 1);
    Check.hallFault(" ".repeat(400), 400, 0);
    Check.hallFault(" ".repeat(399) + "h", 399, 0);
    Check.hallFault("", 0, 0);
    Check.hallFault(";".repeat(400), 0, 0);
    Check.hallFault("hall" + ";".repeat(396), 5, 0);
    Check.hallFault("hall;strand " + "9".repeat(388), 12, 1);
    Check.hallFault("hall;strand 1;" + "x".repeat(386), 14, 0);
    Check.sentence("CLAUSE { ; CLAUSE }, 40 at most:");
    Check.hallFault("hall;", 5, 0);
    Check.hallFault(";hall", 0, 0);
    Check.hallFault("hall;;strand 1", 5, 0);
    Check.hallFault("hall strand 1", 5, 0);
    Check.hallFault("hall,strand 1", 4, 0);
    Check.hallFault("hall;strand 1 strand 1", 14, 0);
    // more than 21 CLAUSES can't stand for another reason, so the 41st is never the first FAULT
    Check.hallTaken(Check.FULL, 8);
    Check.hallFault(Check.FULL + ";hall", Check.FULL.length() + 1, 4);
    Check.hallFault(Check.FULL + ";strand 1", Check.FULL.length() + 1, 4);
    Check.hallFault(Check.FULL + ";chair 1 0", Check.FULL.length() + 1, 4);
    for (int k = 0; k < 9; k++) Check.hallFault(Check.FULL + ";sitter " + k + " 1", Check.FULL.length() + 8, 1);
    Check.hallFault("hall" + ";".repeat(45), 5, 0);
    Check.hallFault("hall" + ";hall".repeat(45), 5, 4);
    Check.sentence("hall (once, the first CLAUSE)");
    Check.hallTaken("hall", 0);
    Check.hallFault("hall;hall", 5, 4);
    Check.hallFault("hall;strand 1;hall", 14, 4);
    Check.hallFault("strand 1;hall", 0, 4);
    Check.hallFault("strand 1", 0, 4);
  }

  private static void hallNumbers() {
    Check.sentence("| strand NUMBER (CANE 0 to 99)");
    strandOf("0", 0);
    strandOf("1", 1);
    strandOf("98", 98);
    strandOf("99", 99);
    strandOf("00000", 0);
    strandOf("00099", 99);
    Check.hallFault("hall;strand 100", 12, 1);
    Check.hallFault("hall;strand 99999", 12, 1);
    Check.hallFault("hall;strand -1", 12, 0);
    Check.hallFault("hall;strand", 11, 0);
    Check.sentence("| chair NUMBER NUMBER (HEIGHT 1 to 60; a STRAND that was told)");
    String two = "hall;strand 3;strand 4;";
    chairOf(two + "chair 1 0", 1, 0);
    chairOf(two + "chair 60 1", 60, 1);
    chairOf(two + "chair 00001 00001", 1, 1);
    Check.hallFault(two + "chair 0 0", 29, 1);
    Check.hallFault(two + "chair 61 0", 29, 1);
    Check.hallFault(two + "chair 65537 0", 29, 1);
    Check.hallFault(two + "chair 1 2", 31, 1);
    Check.hallFault(two + "chair 60 4", 32, 1);
    Check.hallFault(two + "chair 1 2;strand 5", 31, 1);
    Check.hallFault("hall;chair 1 0", 13, 1);
    Check.hallFault("hall;chair 1 0;strand 1", 13, 1);
    Check.hallFault(two + "chair 1", 30, 0);
    Check.hallFault(two + "chair", 28, 0);
    Check.sentence("| sitter NUMBER NUMBER (a CHAIR that was told, that no SITTER has so far; WEIGHT 1 to 20).");
    String chairs = two + "chair 5 0;chair 6 1;";
    sitterOf(chairs + "sitter 0 1", 0, 1);
    sitterOf(chairs + "sitter 1 20", 1, 20);
    sitterOf(chairs + "sitter 00001 00020", 1, 20);
    Check.hallFault(chairs + "sitter 2 1", 50, 1);
    Check.hallFault(chairs + "sitter 2 1;chair 7 0", 50, 1);
    Check.hallFault(chairs + "sitter 0 0", 52, 1);
    Check.hallFault(chairs + "sitter 0 21", 52, 1);
    Check.hallFault(chairs + "sitter 0 1;sitter 0 2", 61, 1);
    Check.hallFault(chairs + "sitter 1 1;sitter 0 2;sitter 1 3", 72, 1);
    Check.hallTaken(chairs + "sitter 1 1;sitter 0 2", 2);
    Check.hallFault("hall;sitter 0 1", 12, 1);
    Check.hallFault("hall;sitter 0 1;chair 1 0", 12, 1);
    Check.hallFault(chairs + "sitter 0", 51, 0);
    Check.hallFault(chairs + "sitter", 49, 0);
  }

  private static void strandOf(String number, int want) {
    ChairCane x = Check.with("hall;strand " + number);
    Check.due("strand " + number, x.strand(0), want);
  }

  private static void chairOf(String text, int height, int strand) {
    ChairCane x = Check.with(text);
    Check.due("height of " + text, x.chair(0, 0), height);
    Check.due("strand of " + text, x.chair(0, 1), strand);
  }

  private static void sitterOf(String text, int chair, int weight) {
    ChairCane x = Check.with(text);
    Check.due("chair of " + text, x.sitter(0, 0), chair);
    Check.due("weight of " + text, x.sitter(0, 1), weight);
  }

  private static void hallCounts() {
    Check.sentence("STRANDS 0 to 3, CHAIRS 0 to 7, SITTERS 0 to 7, in the order told.");
    ChairCane x = Check.with(Check.FULL);
    Check.due("strands", x.count(0), 4);
    Check.due("chairs", x.count(1), 8);
    Check.due("sitters", x.count(2), 8);
    int[] canes = {40, 50, 0, 12};
    for (int k = 0; k < 4; k++) Check.due("strand " + k, x.strand(k), canes[k]);
    int[] heights = {30, 35, 60, 60, 1, 5, 12, 13};
    int[] weights = {5, 5, 20, 1, 10, 10, 6, 4};
    for (int k = 0; k < 8; k++) {
      Check.due("height " + k, x.chair(k, 0), heights[k]);
      Check.due("strand of chair " + k, x.chair(k, 1), k / 2);
      Check.due("sitter of chair " + k, x.chair(k, 2), 7 - k);
      Check.due("chair of sitter " + k, x.sitter(k, 0), 7 - k);
      Check.due("weight " + k, x.sitter(k, 1), weights[k]);
    }
    ChairCane mixed = Check.with("hall;strand 1;chair 2 0;sitter 0 3;strand 4;chair 5 1;chair 6 0;sitter 2 7;strand 8;sitter 1 9");
    Check.due("strand 2", mixed.strand(2), 8);
    Check.due("chair 1", mixed.chair(1, 0), 5);
    Check.due("sitter 1", mixed.sitter(1, 1), 7);
    Check.due("sitter 2", mixed.sitter(2, 0), 1);
    Check.hallTaken("hall" + ";strand 1".repeat(4), 0);
    Check.hallFault("hall" + ";strand 1".repeat(5), 41, 4);
    Check.hallTaken("hall;strand 1" + ";chair 1 0".repeat(8), 0);
    Check.hallFault("hall;strand 1" + ";chair 1 0".repeat(9), 94, 4);
    Check.sentence("It is MINUTE 0; all SITTERS STAND.");
    Check.due("minute", x.count(5), 0);
    for (int k = 0; k < 8; k++) Check.due("state of " + k, x.sitter(k, 2), 0);
    Check.due("who sits", x.count(6), 0);
    Check.due("who is dropped", x.count(7), 0);
    ChairCane again = Check.anew(Check.BUSY);
    Check.hall(again, Check.FULL);
    Check.due("minute of the hall told again", again.count(5), 0);
    Check.due("who sits there", again.count(6), 0);
    Check.due("who is dropped there", again.count(7), 0);
    Check.due("cane as told there", again.strand(1), 50);
  }

  private static void hallCall() {
    Check.promise(4);
    Check.sentence("The TAPE, which is empty then, is the HALL in place of the one there was "
        + "(no NOTES, nothing to be UNDONE; the RULE IN FORCE and x stay): how many SITTERS;");
    ChairCane x = Check.anew(Check.BUSY);
    Check.due("hall", Check.hall(x, Check.CALM), 3);
    Check.due("tape", x.count(12), 0);
    Check.due("strands", x.count(0), 1);
    Check.due("the old second strand", x.strand(1), -1);
    Check.due("chairs", x.count(1), 3);
    Check.due("the old fourth chair", x.chair(3, 0), -2);
    Check.due("sitters", x.count(2), 3);
    Check.due("the old fourth sitter", x.sitter(3, 0), -1);
    Check.due("notes", x.count(9), 0);
    Check.due("all is so without notes", x.ruled(0), 4);
    Check.due("acts", x.count(10), 0);
    Check.due("undo", x.undo(), -2);
    Check.due("rule in force", x.count(4), 0);
    Check.due("rules", x.count(3), 3);
    Check.due("x", x.count(11), 12345);
    Check.due("images are kept", x.back(2), 0);
    Check.due("of the old hall", x.count(2), 8);
    Check.hallTaken("hall;strand 1;chair 1 0", 0);
    Check.sentence("-2 - its FAULT, and all stays.");
    for (String text : new String[] {"", "hall;", "hall;strand 100", "hall;strand 1;chair 1 0;sitter 0 1;sitter 0 2", "sit 1"}) {
      // the given runs show that the TAPE is empty behind a FAULT too, so it is empty on both sides here
      Consumer<ChairCane> made = y -> {
        Check.BUSY.accept(y);
        y.end(0);
      };
      Check.unchanged("hall of '" + text + "'", made, y -> Check.hall(y, text));
    }
    Check.due("the tape is empty behind a fault", tapeBehindHall("hall;"), 0);
  }

  private static int tapeBehindHall(String text) {
    ChairCane x = new ChairCane();
    Check.hall(x, text);
    return x.count(12);
  }

  // ---- rules ----

  private static void ruleText() {
    Check.promise(5);
    Check.sentence("RULES 0 to 5: texts likewise, 12 CLAUSES at most: sit SUM [ if TEST ].");
    Check.ruleTaken("sit 1" + " ".repeat(395));
    Check.ruleTaken(" ".repeat(395) + "sit 1");
    Check.ruleFault(" ".repeat(400), 400, 0);
    Check.ruleFault("+".repeat(400), 0, 0);
    Check.ruleFault("", 0, 0);
    for (String last : new String[] {"<", ">", "<=", ">=", "=", "*", "[", "not", "and", "if", ";"}) {
      String text = "sit 1 if 1=1 and 1";
      boolean sign = "<>==".contains(last.substring(0, 1));
      int blanks = 400 - text.length() - last.length();
      Check.ruleFault(text + " ".repeat(blanks) + last, sign || last.equals("*") ? 400 : 400 - last.length(), 0);
    }
    Check.ruleTaken("sit 1 if 1=" + " ".repeat(384) + "12345");
    Check.ruleTaken("sit 1 if 1=" + " ".repeat(383) + "minute");
    Check.ruleTaken("sit 1");
    Check.ruleTaken("sit 1;".repeat(11) + "sit 1");
    Check.ruleFault("sit 1;".repeat(12) + "sit 1", 72, 4);
    Check.ruleTaken("sit 1 if 1=1;".repeat(11) + "sit 1 if 1=1");
    Check.due("the twelfth clause is of use", Check.seated("sit 0 if 1=2;".repeat(11) + "sit 1"), 7);
    Check.ruleFault("sit 1;", 6, 0);
    Check.ruleFault(";sit 1", 0, 0);
    Check.ruleFault("sit 1;;sit 1", 6, 0);
    Check.ruleFault("sit 1 sit 1", 6, 0);
    Check.ruleFault("sit", 3, 0);
    Check.ruleFault("1", 0, 0);
    Check.ruleFault("if 1=1", 0, 0);
    Check.ruleFault("sit if 1=1", 4, 0);
    Check.ruleFault("sit 1 if", 8, 0);
    Check.ruleFault("sit 1 if;sit 1", 8, 0);
    Check.ruleFault("sit 1 1=1", 6, 0);
    Check.ruleFault("sit 1 if 1=1 if 1=1", 13, 0);
    Check.ruleFault("hall;sit 1", 0, 0);
    Check.hallFault("sit 1", 0, 0);
    Check.sentence("TEST: PART { or PART }. PART: FACT { and FACT }.");
    Check.holds("1=1 or 1=1 and 1=2", true);
    Check.holds("1=2 and 1=1 or 1=1", true);
    Check.holds("1=2 and 1=2 or 1=1 and 1=2", false);
    Check.holds("1=2 or 1=1 and 1=1 or 1=2", true);
    Check.holds("1=2 or 1=2 or 1=2", false);
    Check.holds("1=1 and 1=1 and 1=1", true);
    Check.ruleFault("sit 1 if 1=1 or", 15, 0);
    Check.ruleFault("sit 1 if 1=1 and", 16, 0);
    Check.ruleFault("sit 1 if or 1=1", 9, 0);
    Check.ruleFault("sit 1 if and 1=1", 9, 0);
    Check.ruleFault("sit 1 if 1=1 or and 1=1", 16, 0);
    Check.ruleFault("sit 1 if 1=1 1=1", 13, 0);
    Check.ruleFault("sit 1 or 1=1", 6, 0);
    Check.ruleFault("sit 1 if 1=1 nor 1=1", 13, 0);
  }

  private static void ruleSigns() {
    Check.sentence("FACT: not FACT | [ TEST ] (these brackets are signs) | SUM SIGN SUM, SIGN one of < <= = >= >.");
    String[] signs = {"<", "<=", "=", ">=", ">"};
    String[] left = {"1", "2", "3"};
    boolean[][] want = {{true, false, false}, {true, true, false}, {false, true, false}, {false, true, true}, {false, false, true}};
    for (int s = 0; s < 5; s++) {
      for (int k = 0; k < 3; k++) {
        Check.holds(left[k] + signs[s] + "2", want[s][k]);
        Check.holds("not " + left[k] + signs[s] + "2", !want[s][k]);
        Check.holds("[" + left[k] + signs[s] + "2]", want[s][k]);
      }
    }
    Check.holds("not not 1=2", false);
    Check.holds("not 1=2 and 1=2", false);
    Check.holds("not [1=2 and 1=2]", true);
    Check.holds("not 1=1 or 1=1", true);
    Check.holds("[1=1 or 1=1] and 1=2", false);
    Check.holds("[[1=1]]", true);
    Check.holds("1=1 and [1=2]", false);
    Check.holds("1=2 or [1=1]", true);
    Check.holds("1=1 and [1=2 or 1=2]", false);
    Check.holds("1=2 or [1=1 and 1=1]", true);
    Check.holds("1=1 and not [1=1]", false);
    Check.holds("1=2 or not [1=2 or 1=2]", true);
    Check.holds("1=1 and [1=2 or 1=1 and [1=1 and [1=2]]]", false);
    Check.ruleFault("sit 1 if []", 10, 0);
    Check.ruleFault("sit 1 if [1=1", 13, 0);
    Check.ruleFault("sit 1 if 1=1]", 12, 0);
    Check.ruleFault("sit 1 if [1=1]]", 14, 0);
    Check.ruleFault("sit 1 if [1]=1", 11, 0);
    Check.ruleFault("sit 1 if (1=1)", 9, 0);
    Check.ruleFault("sit 1 if [1=1)", 13, 0);
    Check.ruleFault("sit 1 if not", 12, 0);
    Check.ruleFault("sit 1 if not and", 13, 0);
    Check.ruleFault("sit 1 if 1", 10, 0);
    Check.ruleFault("sit 1 if 1=", 11, 0);
    Check.ruleFault("sit 1 if =1", 9, 0);
    Check.ruleFault("sit 1 if 1=1=1", 12, 0);
    Check.ruleFault("sit 1 if 1==1", 11, 0);
    Check.ruleFault("sit 1 if 1<<1", 11, 0);
    Check.ruleFault("sit 1 if 1<>1", 11, 0);
    Check.ruleFault("sit 1 if 1=<1", 11, 0);
    Check.ruleFault("sit 1 if 1=>1", 11, 0);
    Check.ruleFault("sit 1 if 1<==1", 12, 0);
    Check.ruleFault("sit 1 if 1!=1", 10, 0);
    Check.ruleFault("sit 1 if 1=not 1=1", 11, 0);
    Check.ruleFault("sit not 1", 4, 0);
    Check.ruleFault("sit [1]", 4, 0);
    Check.ruleFault("sit 1=1", 5, 0);
  }

  private static void ruleValues() {
    Check.sentence("VALUE: NUMBER (1 to 5 digits, as far as digits go on) | WORD.");
    Check.holds("0=00000", true);
    Check.holds("99999=99998+1", true);
    Check.holds("00012=12", true);
    Check.holds("1=1and 2=2", true);
    Check.ruleFault("sit 000000", 4, 1);
    Check.ruleFault("sit 100000", 4, 1);
    Check.ruleFault("sit 1+123456", 6, 1);
    Check.ruleFault("sit 1 if 1=000001", 11, 1);
    Check.ruleFault("sit " + "1".repeat(396), 4, 1);
    Check.ruleTaken("sit 99999");
    Check.ruleFault("sit 1 2", 6, 0);
    Check.ruleFault("sit 12345 6", 10, 0);
    Check.ruleFault("sit 1.5", 5, 0);
    Check.ruleFault("sit 1/", 6, 0);
    Check.ruleFault("sit /1", 4, 0);
    Check.ruleFault("sit 1:", 5, 0);
    Check.ruleFault("sit -1", 4, 0);
    Check.ruleFault("sit +1", 4, 0);
    Check.ruleFault("sit 1--1", 6, 0);
    Check.sentence("SUM: TERM { (+ or -) TERM }. TERM: VALUE { (* or / or %) VALUE }.");
    Check.holds("2+3*4=14", true);
    Check.holds("2*3+4=10", true);
    Check.holds("10-3-2=5", true);
    Check.holds("10-3+2=9", true);
    Check.holds("10-6/2=7", true);
    Check.holds("7/2*2=6", true);
    Check.holds("2*7/4=3", true);
    Check.holds("2*3%4=2", true);
    Check.holds("17%10/2=3", true);
    Check.holds("1+7%4-2*3=0-2", true);
    Check.holds("2+3*4-10/5%3*2=10", true);
    Check.ruleFault("sit 1+", 6, 0);
    Check.ruleFault("sit 1*", 6, 0);
    Check.ruleFault("sit 1%", 6, 0);
    Check.ruleFault("sit 1+*1", 6, 0);
    Check.ruleFault("sit 1**1", 6, 0);
    Check.ruleFault("sit 1^1", 5, 0);
  }

  private static void ruleWords() {
    Check.sentence("WORDS (small letters, as far as these go on) of a SITTER who is not DROPPED:");
    for (String word : new String[] {"sitter", "chair", "weight", "height", "cane", "sits", "give", "others", "press", "dropped", "minute"}) {
      Check.ruleTaken("sit " + word);
      Check.ruleTaken("sit " + word + "+1 if " + word + "=" + word);
      Check.ruleFault("sit " + word + "s", 4, 0);
      Check.ruleFault("sit " + word.substring(1), 4, 0);
      Check.ruleFault("sit " + word.substring(0, word.length() - 1), 4, 0);
      Check.ruleFault("sit " + word.substring(0, 1).toUpperCase() + word.substring(1), 4, 0);
      Check.ruleFault("sit " + word + "1", 4 + word.length(), 0);
    }
    for (String word : new String[] {"hall", "strand", "sit", "if", "or", "and", "not", "x", "none"}) Check.ruleFault("sit " + word, 4, 0);
    Check.ruleFault("sit1ifsits=1", 4, 0);
    Check.ruleFault("sitsitter", 0, 0);
    Check.ruleFault("sit 1 if notsits=1", 9, 0);
    Check.ruleFault("sit 1 if sits=1andsits=1", 15, 0);
    ChairCane x = Check.with("hall;strand 9;strand 9;chair 9 0;chair 10 1;sitter 0 1;sitter 1 1", "sit 1 if sitter<2 and dropped<9");
    x.sit(0);
    x.minute();
    Check.due("who is dropped has no words", x.sitter(0, 2), 2);
    Check.due("the other has", x.sitter(1, 2), 1);
    words();
  }

  /** Each word by who sits behind a minute, at and beside the number that it is. */
  private static void words() {
    Check.sentence("sitter, chair, weight, height, cane (of the STRAND of their CHAIR),");
    String hall = "hall;strand 3;strand 4;strand 99;chair 60 1;chair 59 0;chair 58 0;sitter 2 1;sitter 0 19;sitter 1 20";
    wordIs(hall, "sitter", 0, 1, 2);
    wordIs(hall, "chair", 2, 0, 1);
    wordIs(hall, "weight", 1, 19, 20);
    wordIs(hall, "height", 58, 60, 59);
    wordIs(hall, "cane", 3, 4, 3);
    ChairCane let = Check.with(hall, "sit cane-49");
    let.let(0, 50);
    let.minute();
    Check.due("cane as it is now", let.count(6), 5);
    Check.sentence("sits (1 if they SIT, else 0), give (how much their CHAIR GIVES, 0 if they do not SIT),");
    String three = "hall;strand 20;strand 9;chair 60 0;chair 60 0;chair 60 1;sitter 0 3;sitter 1 4;sitter 2 5";
    wordIs(three, "sits", 0, 0, 0);
    wordIs(three, "sits", new int[] {0, 2}, 1, 0, 1);
    wordIs(three, "give", 0, 0, 0);
    wordIs(three, "give", new int[] {0, 1}, 8, 11, 0);
    wordIs(three, "give", new int[] {1, 2}, 0, 20, 9);
    Check.sentence("others (how many others SIT on that STRAND), press (WEIGHT of these others, together),");
    wordIs(Check.CALM, "others", 0, 0, 0);
    wordIs(Check.CALM, "others", new int[] {0}, 0, 1, 1);
    wordIs(Check.CALM, "others", new int[] {0, 1, 2}, 2, 2, 2);
    wordIs(Check.CALM, "press", new int[] {0, 1, 2}, 5, 4, 3);
    wordIs(Check.CALM, "press", new int[] {2}, 3, 3, 0);
    wordIs(three, "others", new int[] {0, 1, 2}, 1, 1, 0);
    wordIs(three, "press", new int[] {0, 1, 2}, 4, 3, 0);
    wordIs(three, "press", new int[] {2}, 0, 0, 0);
    othersBehind();
    Check.sentence("dropped (how many SITTERS are), minute.");
    String low = "hall;strand 9;strand 9;strand 0;chair 9 0;chair 9 1;chair 9 2;sitter 0 1;sitter 1 1;sitter 2 1";
    for (int fallen = 0; fallen <= 2; fallen++) {
      ChairCane x = Check.with(low, "sit 1 if dropped=" + fallen + " and sitter=2");
      for (int k = 0; k < fallen; k++) x.sit(k);
      x.minute();
      Check.due("dropped is " + fallen, x.sitter(2, 2), 1);
    }
    ChairCane minutes = Check.with(Check.CALM, "sit 1 if minute=3");
    Check.due("behind minute 2", minutes.ahead(0, 3, 0), 0);
    Check.due("behind minute 3", minutes.ahead(0, 4, 0), 1);
    Check.due("behind minute 4", minutes.ahead(0, 5, 0), 0);
  }

  /** Who sits beside is told anew behind each rise, fall, undo and each sitter of a minute. */
  private static void othersBehind() {
    ChairCane x = Check.with("hall;strand 12;chair 60 0;chair 60 0;chair 6 0;sitter 0 1;sitter 1 2;sitter 2 3", "sit 1 if others=1 and press=2;sit 0");
    Check.seat(x, 0, 1);
    Check.due("beside one of 2", x.ahead(0, 1, 0), 1);
    Check.due("2 falls at 6", x.sit(2), 4);
    Check.due("beside one of 2 yet", x.ahead(0, 1, 0), 1);
    x.rise(1);
    Check.due("beside nobody", x.ahead(0, 1, 0), 0);
    x.undo();
    Check.due("beside one of 2 again", x.ahead(0, 1, 0), 1);
    x.image(0);
    x.rise(1);
    x.back(0);
    Check.due("beside one of 2 in the image", x.ahead(0, 1, 0), 1);
    Check.due("who rose ahead does not count", Check.seated("sit 0 if sitter=0;sit others", 0, 1), 0);
    Check.due("whose weight rose ahead does not count", Check.seated("sit 0 if sitter=0;sit press", 0, 1), 0);
    Check.due("who sat down ahead counts", Check.seated("sit 1 if sitter=0;sit others"), 7);
  }

  private static void wordIs(String hall, String word, int... want) {
    wordIs(hall, word, new int[0], want);
  }

  /** All stay as they are, but for the one who is asked, who changes if the word is so. */
  private static void wordIs(String hall, String word, int[] sitting, int... want) {
    for (int k = 0; k < want.length; k++) {
      for (int by = -1; by <= 1; by++) {
        if (want[k] + by < 0) continue;
        ChairCane x = Check.with(hall, "sit 1-sits if sitter=" + k + " and " + word + "=" + (want[k] + by) + ";sit sits");
        Check.seat(x, sitting);
        int was = x.count(6);
        x.minute();
        Check.due(word + " of " + k + " is " + (want[k] + by), x.count(6), by == 0 ? was ^ 1 << k : was);
      }
    }
  }

  private static void ruleSums() {
    Check.sentence("/ is towards 0, % its rest, both 0 by 0;");
    // a TERM is below 0 only by going round: this one is the least number of 64 bits, which ends in 808
    String least = "65536*65536*65536*32768";
    Check.holds(least + "<0", true);
    Check.holds(least + "/3*3-" + least + "=2", true);
    Check.holds(least + "%3=0-2", true);
    Check.holds(least + "%1000=0-808", true);
    Check.holds(least + "/1=" + least, true);
    Check.holds("7/2=3", true);
    Check.holds("7%2=1", true);
    Check.holds("6/2=3 and 6%2=0", true);
    Check.holds("1/2=0 and 1%2=1", true);
    Check.holds("5/0=0", true);
    Check.holds("5%0=0", true);
    Check.holds("0/0=0 and 0%0=0", true);
    Check.holds("5/minute=0 and 5%minute=0", true);
    Check.holds(least + "/0=0", true);
    Check.holds(least + "%0=0", true);
    Check.holds("7/0+3=3", true);
    Check.sentence("all goes round in 64 bits.");
    Check.holds("65536*65536*65536*65536=0", true);
    Check.holds("65536*65536*65536*65535>0", false);
    Check.holds(least + "-1>0", true);
    Check.holds(least + "-1+1=" + least, true);
    Check.holds(least + "-1+1<0", true);
    Check.holds(least + "+" + least + "=0", true);
    Check.holds("0-" + least + "=" + least, true);
    Check.holds(least + "*3=" + least, true);
    Check.holds("65536*32768>0 and 65536*65536>65536", true);
    Check.due("the greatest is above 0", Check.seated("sit " + least + "-1"), 7);
    Check.due("one more is not", Check.seated("sit " + least), 0);
    Check.due("2 to the 32nd is above 0", Check.seated("sit 65536*65536"), 7);
    Check.due("2 to the 31st is above 0", Check.seated("sit 65536*32768"), 7);
  }

  private static void blanks() {
    Check.sentence("Blanks (32) stand between as one likes.");
    Check.hallTaken("   hall   ;   strand   5   ;   chair   9   0   ;   sitter   0   3   ", 1);
    Check.hallTaken("hall;strand5;chair9 0;sitter0 3", 1);
    Check.hallFault("hall;strand5;chair90;sitter0 3", 18, 1);
    Check.hallFault("ha ll", 0, 0);
    Check.hallFault("hall;strand 5 5", 14, 0);
    Check.ruleTaken("   sit   1   +   2   if   [   not   1   <=   2   ]   ;   sit   3   ");
    Check.ruleTaken("sit1+2if[not 1<=2]or[1=2]and 3>4;sit3");
    Check.ruleFault("s it 1", 0, 0);
    Check.ruleFault("sit 1 if 1< =2", 12, 0);
    Check.ruleFault("sit 1 if 1> =2", 12, 0);
    for (int b = 0; b < 256; b++) {
      if (b == 32) continue;
      Check.hallFault("hall" + (char) b, letter(b) ? 0 : b == ';' ? 5 : 4, 0);
      Check.hallFault((char) b + "hall", 0, 0);
    }
    for (int b : new int[] {0, 9, 10, 13, 31, 33, 95, 160, 255}) {
      Check.ruleFault("sit" + (char) b + " 1", 3, 0);
      Check.ruleFault("sit 1 if 1" + (char) b + " =1", 10, 0);
    }
  }

  private static boolean letter(int b) {
    return b >= 'a' && b <= 'z';
  }

  private static void deep() {
    Check.sentence("[ and not lie within one another 10 deep at most;");
    Check.ruleTaken("sit 1 if " + "[".repeat(10) + "1=1" + "]".repeat(10));
    Check.ruleFault("sit 1 if " + "[".repeat(11) + "1=1" + "]".repeat(11), 19, 2);
    Check.ruleTaken("sit 1 if " + "not ".repeat(10) + "1=1");
    Check.ruleFault("sit 1 if " + "not ".repeat(11) + "1=1", 49, 2);
    Check.ruleTaken("sit 1 if " + "not[".repeat(5) + "1=1" + "]".repeat(5));
    Check.ruleFault("sit 1 if " + "not[".repeat(5) + "not 1=1" + "]".repeat(5), 29, 2);
    Check.ruleFault("sit 1 if " + "not[".repeat(5) + "[1=1]" + "]".repeat(5), 29, 2);
    Check.ruleFault("sit 1 if " + "[not ".repeat(5) + "[1=1]" + "]".repeat(5), 34, 2);
    // what was closed, and what stands beside, is not around
    Check.ruleTaken("sit 1 if [1=1] and " + "[".repeat(10) + "1=1" + "]".repeat(10));
    Check.ruleTaken("sit 1 if " + "[".repeat(10) + "1=1" + "]".repeat(10) + " or " + "not ".repeat(10) + "1=1");
    Check.ruleTaken("sit 1 if [" + "[1=1] and ".repeat(10) + "1=1]");
    Check.ruleTaken("sit 1 if " + "not 1=1 and ".repeat(11) + "1=1");
    Check.ruleTaken("sit 1 if [not 1=1 and " + "[".repeat(9) + "1=1" + "]".repeat(10));
    Check.ruleFault("sit 1 if [not 1=1 and " + "[".repeat(10) + "1=1" + "]".repeat(11), 31, 2);
    Check.ruleTaken("sit 1 if " + "[".repeat(10) + "1=1" + "]".repeat(10) + ";sit 1 if " + "[".repeat(10) + "1=1" + "]".repeat(10));
    Check.holds("not ".repeat(10) + "1=1", true);
    Check.holds("not ".repeat(9) + "1=1", false);
    Check.holds("not [".repeat(5) + "1=1" + "]".repeat(5), false);
  }

  private static void sixty() {
    Check.sentence("at most 60 VALUES (of SUMS) and FACTS made of a SIGN, together.");
    Check.ruleTaken(SIXTY);
    Check.ruleFault(SIXTY + "+1", SIXTY.length() + 1, 3);
    // twenty FACTS of two VALUES each
    String facts = "sit 1 if 1=1" + " or 1=1".repeat(18);
    Check.ruleTaken(facts + ";sit 1;sit 1");
    Check.ruleFault(facts + ";sit 1;sit 1;sit 1", facts.length() + 17, 3);
    Check.ruleFault(facts + " or 1=1", facts.length() + 6, 3);
    Check.ruleTaken(facts + ";sit 1+1");
    // [ and not are no FACTS made of a SIGN
    Check.ruleTaken("sit 1+1+1 if [not 1=1]" + " or [not 1=1]".repeat(18));
    Check.ruleFault("sit 1+1+1+1 if [not 1=1]" + " or [not 1=1]".repeat(18), 24 + 13 * 17 + 11, 3);
    // of all CLAUSES together
    Check.ruleTaken("sit 1+1+1+1+1;".repeat(11) + "sit 1+1+1+1+1");
    Check.ruleFault("sit 1+1+1+1+1;".repeat(11) + "sit 1+1+1+1+1+1", 11 * 14 + 14, 3);
    Check.due("sixty reckoned", Check.seated("sit 1" + "+1".repeat(57) + "-58"), 0);
    Check.due("sixty reckoned", Check.seated("sit 1" + "+1".repeat(57) + "-57"), 7);
  }

  // ---- faults ----

  private static void faultPlaces() {
    Check.sentence("FAULTS, the first along the text, 1 + 8 * its place and:");
    Check.due("place 0, kind 0", Check.hall(new ChairCane(), "!"), -2 - 1);
    Check.due("place 0, kind 4", Check.hall(new ChairCane(), "chair"), -2 - 5);
    Check.due("place 1, kind 0", Check.hall(new ChairCane(), " !"), -2 - 9);
    Check.due("place 12, kind 1", Check.hall(new ChairCane(), "hall;strand 100"), -2 - (1 + 96 + 1));
    Check.due("place 399", Check.hall(new ChairCane(), "hall" + " ".repeat(395) + "!"), -2 - (1 + 8 * 399));
    Check.due("place 400", Check.hall(new ChairCane(), "hall" + " ".repeat(395) + ";"), -2 - (1 + 8 * 400));
    Check.hallFault("hall;strand 100;strand 100;!", 12, 1);
    Check.hallFault("hall;strand 1;chair 99 99;sitter 99 99", 20, 1);
    Check.hallFault("hall;strand 1;chair 60 99;sitter 99 99", 23, 1);
    Check.hallFault("hall;hall;!", 5, 4);
    Check.ruleFault("sit 123456 if [[[[[[[[[[[1", 4, 1);
    Check.ruleFault("sit 1 if [[[[[[[[[[[123456", 19, 2);
    Check.ruleFault("sit 1,;sit 123456", 5, 0);
    Check.ruleFault(SIXTY + "+1,", SIXTY.length() + 1, 3);
    Check.sentence("0 a byte or WORD that can't stand there, or the end (behind the last byte);");
    Check.hallFault("hallx", 0, 0);
    Check.hallFault("hall;strandx 5", 5, 0);
    Check.hallFault("hall;strand x5", 12, 0);
    Check.hallFault("hall;strand 5x", 13, 0);
    Check.hallFault("hall;strand 5 chair 1 0", 14, 0);
    Check.hallFault("hall 1234567", 5, 0);
    Check.hallFault("hall;123456", 5, 0);
    Check.hallFault("hall;strand 1;chair 1,0", 21, 0);
    Check.hallFault("hall;strand 1;chair 1 0;sitter 0;", 32, 0);
    Check.hallFault("hall;strand 1;chair 1 0;sitter 0  ", 34, 0);
    Check.hallFault("hall;sit 1", 5, 0);
    Check.ruleFault("sit 1 if 1    ", 14, 0);
    Check.ruleFault("sit 1 if 1 123456", 11, 0);
    Check.ruleFault("sit 1 123456", 6, 0);
  }

  private static void faultKinds() {
    Check.sentence("1 a NUMBER of more digits, or not as told;");
    Check.hallFault("hall;strand 000000", 12, 1);
    Check.hallFault("hall;strand 000099x", 12, 1);
    Check.hallFault("hall;strand 1;chair 000001 0", 20, 1);
    Check.hallFault("hall;strand 1;chair 1 000000", 22, 1);
    Check.hallFault("hall;strand 1;chair 1 0;sitter 000000 1", 31, 1);
    Check.hallFault("hall;strand 1;chair 1 0;sitter 0 000001", 33, 1);
    Check.hallFault("hall;strand 1" + "0".repeat(387), 12, 1);
    Check.hallFault("hall;strand 4294967296", 12, 1);
    Check.hallFault("hall;strand 4294967297", 12, 1);
    Check.hallFault("hall;strand 1;chair 4294967297 0", 20, 1);
    Check.ruleFault("sit 4294967297", 4, 1);
    Check.sentence("2 too deep (at the sign that opens, or the word not);");
    Check.ruleFault("sit 1 if " + "[ ".repeat(11) + "1=1", 29, 2);
    Check.ruleFault("sit 1 if " + "[".repeat(10) + "  not 1=1", 21, 2);
    Check.ruleFault("sit 1 if " + "[".repeat(11), 19, 2);
    Check.ruleFault("sit 1 if " + "[".repeat(10) + "not", 19, 2);
    Check.ruleFault("sit 1 if " + "[".repeat(10) + "nott", 19, 0);
    Check.sentence("3 one VALUE or FACT too many (at its first byte; of a FACT at its SIGN);");
    Check.ruleFault(SIXTY + " + minute", SIXTY.length() + 3, 3);
    Check.ruleFault(SIXTY + " + 12345", SIXTY.length() + 3, 3);
    String less = "sit 1" + "+1".repeat(58) + " if 1 ";
    for (String sign : new String[] {"<", "<=", "=", ">=", ">"}) Check.ruleFault(less + sign + " 1", less.length(), 3);
    String two = "sit 1" + "+1".repeat(57) + " if 1 <= ";
    Check.ruleFault(two + "1", two.length(), 3);
    Check.ruleTaken("sit 1" + "+1".repeat(56) + " if 1 <= 1");
    String bracket = "sit 1" + "+1".repeat(59) + " if [not ";
    Check.ruleFault(bracket + "1=1]", bracket.length(), 3);
    Check.sentence("4 one CLAUSE too many, a second hall, another CLAUSE ahead of it, a fifth STRAND, a ninth CHAIR (at its first byte).");
    Check.ruleFault("sit 1;".repeat(12) + "   sit", 75, 4);
    Check.hallFault("hall ;  hall 5", 8, 4);
    Check.hallFault("hall;strand 1;chair 1 0;sitter 0 1;hall", 35, 4);
    for (String clause : new String[] {"strand 1", "chair 1 0", "sitter 0 1"}) Check.hallFault("  " + clause + ";hall", 2, 4);
    Check.hallFault("hall" + ";strand 1".repeat(4) + ";  strand 100", 43, 4);
    Check.hallFault("hall;strand 1" + ";chair 1 0".repeat(8) + ";  chair 0 9", 96, 4);
    Check.sentence("Of one place the least.");
    Check.ruleFault("sit 1;".repeat(12) + "sat 1", 72, 0);
    Check.ruleFault("sit 1;".repeat(12), 72, 0);
    Check.ruleFault("sit 1;".repeat(12) + "123456", 72, 0);
    Check.ruleFault(SIXTY + "+123456", SIXTY.length() + 1, 1);
    Check.ruleFault(SIXTY + "+giving", SIXTY.length() + 1, 0);
    Check.ruleFault(SIXTY + "+", SIXTY.length() + 1, 0);
    Check.ruleFault(SIXTY + ";sit 123456", SIXTY.length() + 5, 1);
    Check.ruleFault(SIXTY + " < 1", SIXTY.length() + 1, 0);
    Check.ruleFault(less + "if 1", less.length(), 0);
    Check.hallFault("hall" + ";strand 1".repeat(4) + ";strandy", 41, 0);
    Check.hallFault("123456", 0, 0);
    Check.hallFault("hello;hall", 0, 0);
    Check.hallFault("sit;hall", 0, 0);
  }

  private static void ruleCall() {
    Check.promise(5);
    Check.sentence("The TAPE, which is empty then, is a RULE: its number; -2 - its FAULT;");
    ChairCane x = new ChairCane();
    for (int k = 0; k < 6; k++) {
      Check.due("a fault", Check.rule(x, "sit"), Check.fault(3, 0));
      Check.due("the tape behind a fault", x.count(12), 0);
      Check.due("rules behind a fault", x.count(3), k);
      Check.due("rule " + k, Check.rule(x, "sit " + k), k);
      Check.due("the tape", x.count(12), 0);
      Check.due("rules", x.count(3), k + 1);
      Check.due("none is in force yet", x.count(4), -1);
    }
    nothingIsLeft();
    Consumer<ChairCane> busy = y -> {
      Check.BUSY.accept(y);
      y.end(0);
    };
    for (String text : new String[] {"", "sit", "sit 1;", "sit 1 if 1", "hall", "sit 1;".repeat(12) + "sit 1"}) {
      Check.unchanged("rule of '" + text + "'", busy, y -> Check.rule(y, text));
    }
    Check.sentence("NONE, and nothing happens: there are 6.");
    Check.unchanged("a seventh", SIX_RULES, y -> y.rule(), -1);
    Check.unchanged("a seventh, of nothing", y -> {
      SIX_RULES.accept(y);
      y.end(0);
    }, y -> y.rule(), -1);
    Check.due("the tape is there yet", Check.anew(SIX_RULES).count(12), 5);
    Check.due("six", Check.anew(SIX_RULES).count(3), 6);
  }

  /** Of a text with a FAULT neither clauses, nor values, nor depth are left for the next. */
  private static void nothingIsLeft() {
    ChairCane x = Check.with(Check.CALM);
    Check.rule(x, "sit 0;sit 0 if 1=1;sit");
    Check.due("the next is a rule", Check.rule(x, "sit 1"), 0);
    x.force(0);
    Check.due("of one clause", x.ahead(0, 1, 0), 1);
    Check.rule(x, "sit 0;sit");
    Check.rule(x, "sit 1-1");
    x.force(1);
    Check.due("of its own clause", x.ahead(0, 1, 0), 0);
    Check.rule(x, SIXTY + ",");
    Check.due("sixty behind sixty", Check.rule(x, SIXTY), 2);
    Check.rule(x, "sit 1;".repeat(12));
    Check.due("twelve behind twelve", Check.rule(x, "sit 1;".repeat(11) + "sit 1"), 3);
    Check.rule(x, "sit 1 if " + "[".repeat(10));
    Check.due("ten deep behind ten deep", Check.rule(x, "sit 1 if " + "not ".repeat(10) + "1=1"), 4);
    Check.hall(x, "hall;strand 1;strand 2;strand 3;strand 4;chair");
    Check.due("a hall behind one with a fault", Check.hall(x, Check.CALM), 3);
    Check.due("of one strand", x.count(0), 1);
    Check.hall(x, "hall;strand 1;chair 1 0;sitter 0 1;sitter");
    Check.due("a chair that nobody has", Check.hall(x, "hall;strand 1;chair 1 0;sitter 0 1"), 1);
  }

  private static void force() {
    Check.promise(6);
    Check.sentence("A RULE is IN FORCE (NONE: none): which was;");
    ChairCane x = Check.with(Check.CALM);
    Check.due("force(NONE)", x.force(-1), -1);
    for (int k = 0; k < 6; k++) {
      Check.due("force ahead of its rule", x.force(k), -2);
      Check.rule(x, "sit 1 if sitter=" + k + "%3");
      Check.due("force(" + k + ")", x.force(k), k - 1);
      Check.due("in force", x.count(4), k);
      Check.due("it is the one", x.ahead(k % 3, 1, 0), 1);
    }
    Check.due("the same again", x.force(5), 5);
    Check.due("force(NONE)", x.force(-1), 5);
    Check.due("none", x.count(4), -1);
    Check.due("no act", x.count(10), 0);
    Check.sentence("-2, and nothing happens, if there is none such.");
    for (int k : new int[] {-2, -3, 3, 4, 6, Integer.MIN_VALUE, Integer.MAX_VALUE}) {
      Check.unchanged("force(" + k + ")", Check.BUSY, y -> y.force(k), -2);
    }
    Check.unchanged("force(6) of six", SIX_RULES, y -> y.force(6), -2);
    Check.unchanged("force(0) of none", Check.NO_HALL, y -> y.force(0), -2);
  }
}
