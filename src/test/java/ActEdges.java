import java.util.function.Consumer;

/** The sentences about how it is and about acts: gives, settling, minutes, what is undone (promises 7 to 15). */
final class ActEdges {
  private static final int[] NO_SITTERS = {8, 9, -1, -2, 31, 32, 33, Integer.MIN_VALUE, Integer.MAX_VALUE};
  private static final int[] NO_WHATS = {-1, -2, Integer.MIN_VALUE, Integer.MAX_VALUE};

  private ActEdges() {}

  static void run() {
    strand();
    chair();
    sitter();
    gives();
    settles();
    minuteByRule();
    minute();
    sit();
    rise();
    help();
    let();
    undo();
  }

  // ---- promises 7 to 9 ----

  private static void strand() {
    Check.promise(7);
    Check.sentence("CANE of a STRAND; NONE without it.");
    ChairCane x = Check.anew(Check.BUSY);
    int[] canes = {40, 99, 3, 12};
    for (int k = 0; k < 4; k++) Check.due("strand(" + k + ")", x.strand(k), canes[k]);
    for (int k : new int[] {4, 5, -1, Integer.MIN_VALUE, Integer.MAX_VALUE}) {
      Check.unchanged("strand(" + k + ")", Check.BUSY, y -> y.strand(k), -1);
    }
    Check.due("strand(0) of one", Check.anew(Check.BARE).strand(0), 5);
    Check.due("strand(1) of one", Check.anew(Check.BARE).strand(1), -1);
    Check.due("without strands", Check.with("hall").strand(0), -1);
    Check.due("without a hall", Check.anew(Check.NO_HALL).strand(0), -1);
  }

  private static void chair() {
    Check.promise(8);
    Check.sentence("Of a CHAIR what 0: HEIGHT, 1: the STRAND, 2: its SITTER (NONE: nobody's), 3: how much it GIVES (0, if nobody SITS on it).");
    ChairCane x = Check.anew(Check.BUSY);
    int[][] want = {{30, 0, 7, 0}, {35, 0, 6, 0}, {60, 1, 5, 49}, {60, 1, 4, 49}, {1, 2, 3, 0}, {5, 2, 2, 3}, {12, 3, 1, 6}, {13, 3, 0, 6}};
    for (int k = 0; k < 8; k++) {
      for (int what = 0; what < 4; what++) Check.due("chair(" + k + ", " + what + ")", x.chair(k, what), want[k][what]);
    }
    ChairCane bare = Check.anew(Check.BARE);
    Check.due("nobody's", bare.chair(0, 2), -1);
    Check.due("nobody's gives", bare.chair(0, 3), 0);
    Check.sentence("-2 without these.");
    for (int k : NO_SITTERS) Check.unchanged("chair(" + k + ", 0)", Check.BUSY, y -> y.chair(k, 0), -2);
    for (int what : NO_WHATS) Check.unchanged("chair(0, " + what + ")", Check.BUSY, y -> y.chair(0, what), -2);
    Check.unchanged("chair(0, 4)", Check.BUSY, y -> y.chair(0, 4), -2);
    Check.due("chair(1, 0) of one", bare.chair(1, 0), -2);
    Check.due("without a hall", Check.anew(Check.NO_HALL).chair(0, 0), -2);
  }

  private static void sitter() {
    Check.promise(9);
    Check.sentence("Of a SITTER what 0: the CHAIR, 1: WEIGHT, 2: 0 STANDS, 1 SITS, 2 DROPPED. NONE without these.");
    ChairCane x = Check.anew(Check.BUSY);
    int[][] want = {{7, 5, 1}, {6, 5, 1}, {5, 20, 1}, {4, 1, 0}, {3, 10, 1}, {2, 10, 1}, {1, 6, 2}, {0, 4, 0}};
    for (int k = 0; k < 8; k++) {
      for (int what = 0; what < 3; what++) Check.due("sitter(" + k + ", " + what + ")", x.sitter(k, what), want[k][what]);
    }
    for (int k : NO_SITTERS) {
      for (int what = 0; what < 3; what++) Check.due("sitter(" + k + ", " + what + ")", x.sitter(k, what), -1);
      Check.unchanged("sitter(" + k + ", 2)", Check.BUSY, y -> y.sitter(k, 2), -1);
    }
    for (int what : NO_WHATS) Check.unchanged("sitter(0, " + what + ")", Check.BUSY, y -> y.sitter(0, what), -1);
    Check.unchanged("sitter(0, 3)", Check.BUSY, y -> y.sitter(0, 3), -1);
    Check.due("sitter(0, 0) of none", Check.anew(Check.BARE).sitter(0, 0), -1);
    Check.due("without a hall", Check.anew(Check.NO_HALL).sitter(0, 0), -1);
    Check.sentence("A SITTER STANDS, SITS, or is DROPPED.");
    for (int k = 0; k < 8; k++) {
      int bits = (x.count(6) >> k & 1) + 2 * (x.count(7) >> k & 1);
      Check.due("state of " + k + " as bits", bits, x.sitter(k, 2));
    }
  }

  // ---- giving and settling ----

  private static void gives() {
    Check.sentence("The CHAIR of one who SITS GIVES CANE of its STRAND * their WEIGHT "
        + "/ the WEIGHT of all who SIT on CHAIRS of that STRAND, together, downwards.");
    ChairCane x = Check.with("hall;strand 20;strand 20;chair 60 0;chair 60 0;chair 60 1;chair 60 0;"
        + "sitter 0 3;sitter 1 4;sitter 2 20;sitter 3 20");
    Check.seat(x, 0);
    Check.due("alone", x.chair(0, 3), 20);
    Check.seat(x, 2);
    Check.due("one on another strand", x.chair(0, 3), 20);
    Check.seat(x, 1);
    Check.due("60/7", x.chair(0, 3), 8);
    Check.due("80/7", x.chair(1, 3), 11);
    Check.due("who stands", x.chair(3, 3), 0);
    Check.due("all together", x.count(8), 39);
    Check.seat(x, 3);
    Check.due("60/27", x.chair(0, 3), 2);
    Check.due("80/27", x.chair(1, 3), 2);
    Check.due("400/27", x.chair(3, 3), 14);
    ChairCane eight = Check.with("hall;strand 59" + ";chair 60 0".repeat(8) + allSitters(20));
    Check.seat(eight, 0, 1, 2, 3, 4, 5, 6, 7);
    eight.let(0, 99);
    Check.due("1980/160", eight.chair(0, 3), 12);
    Check.due("all together", eight.count(8), 96);
    eight.let(0, 7);
    Check.due("140/160", eight.chair(0, 3), 0);
    eight.let(0, 8);
    Check.due("160/160", eight.chair(0, 3), 1);
    eight.let(0, 0);
    Check.due("no cane", eight.chair(0, 3), 0);
  }

  private static String allSitters(int weight) {
    StringBuilder b = new StringBuilder();
    for (int k = 0; k < 8; k++) b.append(";sitter ").append(k).append(' ').append(weight);
    return b.toString();
  }

  private static void settles() {
    Check.sentence("It SETTLES: all who SIT, whose CHAIR GIVES its HEIGHT or more, are DROPPED, all at once; again and again, till none is.");
    for (int cane = 8; cane <= 10; cane++) {
      ChairCane x = Check.with("hall;strand " + cane + ";chair 9 0;sitter 0 7");
      Check.due(cane + " on 9", x.sit(0), cane >= 9 ? 1 : 0);
    }
    Check.due("1 on 1", Check.with("hall;strand 1;chair 1 0;sitter 0 1").sit(0), 1);
    Check.due("0 on 1", Check.with("hall;strand 0;chair 1 0;sitter 0 1").sit(0), 0);
    Check.due("60 on 60", Check.with("hall;strand 60;chair 60 0;sitter 0 1").sit(0), 1);
    Check.due("59 on 60", Check.with("hall;strand 59;chair 60 0;sitter 0 1").sit(0), 0);
    // 24 by eight is 3 each, at which two fall; by six 4, at which two fall; then by four, three, two, and one at 24
    int[] heights = {3, 3, 4, 4, 6, 8, 12, 24};
    StringBuilder hall = new StringBuilder("hall;strand 1");
    for (int height : heights) hall.append(";chair ").append(height).append(" 0");
    ChairCane chain = Check.with(hall + allSitters(1), "sit 1");
    chain.let(0, 24);
    Check.due("one behind the other", chain.minute(), 255);
    Check.due("none sits", chain.count(6), 0);
    ChairCane some = Check.with(hall.toString().replace("chair 6 0", "chair 7 0") + allSitters(1), "sit 1");
    some.let(0, 24);
    // the fifth has 6 on 7 now, when the first four have fallen
    Check.due("till none is", some.minute(), 15);
    Check.due("four sit", some.count(6), 240);
    ChairCane apart = Check.with("hall;strand 9;strand 9;chair 9 0;chair 10 1;sitter 0 1;sitter 1 1", "sit 1");
    Check.due("of one strand", apart.minute(), 1);
    Check.due("who stands does not fall", Check.with("hall;strand 50;chair 9 0;sitter 0 1").minute(), 0);
  }

  // ---- minutes ----

  private static void minuteByRule() {
    Check.promise(10);
    Check.sentence("A MINUTE: (1) by the RULE IN FORCE SITTERS by numbers, who are not DROPPED, each by how all is then:");
    Check.due("others of those ahead", Check.seated("sit 1 if others=sitter"), 7);
    Check.due("press of those ahead", Check.seated("sit 1 if press<3"), 3);
    Check.due("those behind as they were", Check.seated("sit 1 if others=2-sitter", 1, 2), 1);
    ChairCane x = Check.with("hall;strand 9;strand 0;chair 9 0;chair 9 1;chair 9 0;sitter 0 1;sitter 1 1;sitter 2 1", "sit 1 if dropped=1");
    x.sit(0);
    Check.due("the second and the third sit down, the third falls", x.minute(), 4);
    Check.due("the second sits", x.count(6), 2);
    Check.due("who is dropped stays so", x.count(7), 5);
    ChairCane give = Check.with("hall;strand 20;chair 60 0;chair 60 0;sitter 0 5;sitter 1 5", "sit give-10");
    Check.seat(give, 0, 1);
    give.minute();
    Check.due("10 is not above 10; the other has 20 then", give.count(6), 2);
    Check.sentence("SIT from now on, if the SUM of its first CLAUSE without a TEST, or whose TEST holds (0 without), is above 0, else STAND;");
    Check.due("1", Check.seated("sit 1"), 7);
    Check.due("0", Check.seated("sit 0", 0, 1, 2), 0);
    Check.due("below 0", Check.seated("sit 0-1", 0, 1, 2), 0);
    Check.due("the first holds", Check.seated("sit 0 if 1=1;sit 1", 0), 0);
    Check.due("the first does not", Check.seated("sit 0 if 1=2;sit 1"), 7);
    Check.due("the first without a test", Check.seated("sit 0;sit 1 if 1=1", 0), 0);
    Check.due("behind one that holds", Check.seated("sit 1 if 1=1;sit 0"), 7);
    Check.due("0 without", Check.seated("sit 1 if 1=2", 0, 1, 2), 0);
    Check.due("0 without, of twelve", Check.seated("sit 1 if 1=2;".repeat(11) + "sit 1 if 1=2", 0, 1, 2), 0);
    Check.due("each by a clause of its own", Check.seated("sit 1 if sitter=1;sit 0 if sitter=0;sit weight-2"), 6);
    Check.sentence("without a RULE all stays.");
    ChairCane none = Check.anew(Check.BUSY);
    none.force(-1);
    int sits = none.count(6);
    int dropped = none.count(7);
    Check.due("minute", none.minute(), 0);
    Check.due("who sits", none.count(6), sits);
    Check.due("who is dropped", none.count(7), dropped);
    Check.due("minute is 1 more", none.count(5), 5);
    Check.sentence("(2) It SETTLES.");
    // alone each would fall, but both sit when it settles
    ChairCane both = Check.with("hall;strand 20;chair 15 0;chair 15 0;sitter 0 5;sitter 1 5", "sit 1", "sit sitter");
    Check.due("both", both.minute(), 0);
    both.force(1);
    Check.due("one", both.minute(), 2);
  }

  private static void minute() {
    Check.promise(10);
    Check.sentence("MINUTE is 1 more (999 at most).");
    ChairCane x = Check.with("hall");
    for (int k = 0; k < 999; k++) {
      if (k < 3 || k > 996) Check.due("minute " + k, x.count(5), k);
      Check.due("minute", x.minute(), 0);
    }
    Check.due("999", x.count(5), 999);
    Check.sentence("A MINUTE: who is DROPPED in it, as bits;");
    ChairCane y = Check.with("hall;strand 9;strand 9;strand 9;chair 9 0;chair 10 1;chair 9 2;sitter 0 1;sitter 1 1;sitter 2 1", "sit 1 if minute>=sitter");
    Check.due("the first", y.minute(), 1);
    Check.due("the second does not fall", y.minute(), 0);
    Check.due("the third alone", y.minute(), 4);
    Check.due("nobody more", y.minute(), 0);
    Check.sentence("NONE, and nothing happens, without a HALL, or at MINUTE 999.");
    Check.unchanged("without a hall", Check.NO_HALL, z -> z.minute(), -1);
    Check.due("a hall with nobody", Check.anew(Check.BARE).minute(), 0);
    // more calls than are promised lead to 999, and to this test
    Consumer<ChairCane> last = z -> {
      Check.hall(z, "hall;strand 5;chair 9 0;sitter 0 1");
      Check.rule(z, "sit 999-minute");
      z.force(0);
      for (int k = 0; k < 999; k++) z.minute();
    };
    Check.due("at 998", Check.anew(z -> {
      last.accept(z);
      z.undo();
    }).minute(), 0);
    Check.unchanged("at 999", last, z -> z.minute(), -1);
    ChairCane late = Check.anew(last);
    Check.due("no act", late.count(10), 20);
    Check.due("other acts are free", late.rise(0), 0);
    Check.sentence("MINUTES go on by the RULE IN FORCE, beyond 999, too.)");
    ChairCane on = Check.anew(last);
    Check.due("minute 998 has 1", on.ahead(0, 0, 0), 1);
    Check.due("minute 999 has 0", on.ahead(0, 1, 0), 0);
    Check.rule(on, "sit minute-1000");
    on.force(1);
    Check.due("minutes 999 and 1000 have none", on.ahead(0, 2, 0), 0);
    Check.due("minute 1001 has 1", on.ahead(0, 3, 0), 1);
    on.rise(0);
    on.let(0, 9);
    Check.due("falls in minute 1001", on.falls(0), 1001);
    Check.due("begins anew with 1002", on.ring(0), 999);
  }

  // ---- acts by hand ----

  private static void sit() {
    Check.promise(11);
    Check.sentence("ACTS: a MINUTE; SIT (one who STANDS SITS; it SETTLES then);");
    ChairCane x = Check.with("hall;strand 20;chair 20 0;chair 12 0;chair 60 0;sitter 0 5;sitter 1 5;sitter 2 10");
    Check.due("20 on 60", x.sit(2), 0);
    Check.due("6 on 20", x.sit(0), 0);
    Check.due("5 on 12", x.sit(1), 0);
    Check.due("all sit", x.count(6), 7);
    Check.due("three acts", x.count(10), 3);
    Check.due("no minute", x.count(5), 0);
    Check.sentence("SIT: who is DROPPED, as bits;");
    ChairCane y = Check.with("hall;strand 20;chair 20 0;chair 12 0;sitter 0 5;sitter 1 5");
    Check.due("20 on 12", y.sit(1), 2);
    Check.due("20 on 20", y.sit(0), 1);
    ChairCane other = Check.with("hall;strand 10;chair 11 0;chair 5 0;sitter 0 5;sitter 1 5");
    Check.due("10 on 11", other.sit(0), 0);
    Check.due("5 on 5, and the other sits on", other.sit(1), 2);
    Check.due("who sits", other.count(6), 1);
    Check.sentence("NONE, and nothing happens, without one who STANDS.");
    for (int k : new int[] {0, 1, 2, 4, 5, 6}) Check.unchanged("sit(" + k + ")", Check.BUSY, z -> z.sit(k), -1);
    for (int k : NO_SITTERS) Check.unchanged("sit(" + k + ")", Check.BUSY, z -> z.sit(k), -1);
    Check.due("sit(3)", Check.anew(Check.BUSY).sit(3), 0);
    Check.due("sit(7)", Check.anew(Check.BUSY).sit(7), 128);
    Check.unchanged("sit(0) of none", Check.BARE, z -> z.sit(0), -1);
    Check.unchanged("sit(0) without a hall", Check.NO_HALL, z -> z.sit(0), -1);
  }

  private static void rise() {
    Check.promise(12);
    Check.sentence("RISE (one who SITS STANDS; it SETTLES then);");
    ChairCane x = Check.with("hall;strand 10;chair 14 0;chair 11 0;sitter 0 5;sitter 1 5");
    Check.seat(x, 0, 1);
    x.let(0, 13);
    Check.due("13 on 11", x.rise(0), 2);
    Check.due("stands", x.sitter(0, 2), 0);
    x.undo();
    Check.due("13 on 14", x.rise(1), 0);
    Check.due("sits", x.sitter(0, 2), 1);
    Check.due("an act", x.count(10), 4);
    Check.sentence("RISE: who is DROPPED, as bits;");
    Check.due("who rises last", x.rise(0), 0);
    ChairCane y = Check.with("hall;strand 9;chair 60 0;chair 10 0;chair 25 0;sitter 0 10;sitter 1 5;sitter 2 5");
    Check.seat(y, 0, 1, 2);
    y.let(0, 30);
    Check.due("15 on 10, then 30 on 25", y.rise(0), 6);
    Check.sentence("NONE, and nothing happens, without one who SITS.");
    for (int k : new int[] {3, 6, 7}) Check.unchanged("rise(" + k + ")", Check.BUSY, z -> z.rise(k), -1);
    for (int k : NO_SITTERS) Check.unchanged("rise(" + k + ")", Check.BUSY, z -> z.rise(k), -1);
    for (int k : new int[] {2, 4, 5}) Check.due("rise(" + k + ")", Check.anew(Check.BUSY).rise(k), k == 4 ? 32 : k == 5 ? 16 : 0);
    Check.unchanged("rise(0) of none", Check.BARE, z -> z.rise(0), -1);
    Check.unchanged("rise(0) without a hall", Check.NO_HALL, z -> z.rise(0), -1);
  }

  private static void help() {
    Check.promise(13);
    Check.sentence("HELP (one who is DROPPED STANDS);");
    ChairCane x = Check.with("hall;strand 9;strand 9;chair 9 0;chair 9 1;sitter 0 1;sitter 1 1", "sit 1");
    x.minute();
    Check.due("both are dropped", x.count(7), 3);
    Check.sentence("HELP: how many are DROPPED yet;");
    Check.due("help(1)", x.help(1), 1);
    Check.due("stands", x.sitter(1, 2), 0);
    Check.due("the other does not", x.sitter(0, 2), 2);
    Check.due("help(0)", x.help(0), 0);
    Check.due("acts", x.count(10), 3);
    Check.due("both fall again", x.minute(), 3);
    Check.sentence("NONE, and nothing happens, without one who is.");
    for (int k : new int[] {0, 1, 2, 3, 4, 5, 7}) Check.unchanged("help(" + k + ")", Check.BUSY, z -> z.help(k), -1);
    for (int k : NO_SITTERS) Check.unchanged("help(" + k + ")", Check.BUSY, z -> z.help(k), -1);
    Check.due("help(6)", Check.anew(Check.BUSY).help(6), 0);
    Check.unchanged("help(0) of none", Check.BARE, z -> z.help(0), -1);
    Check.unchanged("help(0) without a hall", Check.NO_HALL, z -> z.help(0), -1);
  }

  private static void let() {
    Check.promise(14);
    Check.sentence("LET (a STRAND has another CANE, 0 to 99; it SETTLES then).");
    ChairCane x = Check.with("hall;strand 50;strand 50;chair 9 1;chair 60 0;sitter 0 1;sitter 1 1");
    Check.due("0", x.let(1, 0), 0);
    Check.due("is 0", x.strand(1), 0);
    Check.due("the other is not", x.strand(0), 50);
    Check.seat(x, 0, 1);
    Check.due("8 on 9", x.let(1, 8), 0);
    Check.sentence("LET: who is DROPPED, as bits;");
    Check.due("9 on 9", x.let(1, 9), 1);
    Check.due("99 on 60", x.let(0, 99), 2);
    Check.due("is 99", x.strand(0), 99);
    Check.due("as the text told it again", x.let(0, 50), 0);
    Check.due("acts", x.count(10), 7);
    Check.sentence("NONE, and nothing happens, without these (another CANE).");
    int[] canes = {40, 99, 3, 12};
    for (int k = 0; k < 4; k++) {
      int strand = k;
      Check.unchanged("let the same", Check.BUSY, z -> z.let(strand, canes[strand]), -1);
    }
    for (int cane : new int[] {-1, 100, Integer.MIN_VALUE, Integer.MAX_VALUE}) Check.unchanged("let(0, " + cane + ")", Check.BUSY, z -> z.let(0, cane), -1);
    for (int strand : new int[] {-1, 4, 5, Integer.MIN_VALUE, Integer.MAX_VALUE}) {
      Check.unchanged("let(" + strand + ", 1)", Check.BUSY, z -> z.let(strand, 1), -1);
    }
    Check.unchanged("let(1, 1) of one", Check.BARE, z -> z.let(1, 1), -1);
    Check.unchanged("let(0, 1) without a hall", Check.NO_HALL, z -> z.let(0, 1), -1);
    Check.due("let(3, 0)", Check.anew(Check.BUSY).let(3, 0), 0);
    Check.due("let(3, 99)", Check.anew(Check.BUSY).let(3, 99), 3);
  }

  // ---- what is undone ----

  private static void undo() {
    Check.promise(15);
    Check.sentence("The last 20 ACTS can be UNDONE, the last first.");
    for (int acts = 19; acts <= 42; acts++) {
      ChairCane x = Check.with(Check.CALM);
      for (int k = 1; k <= acts; k++) x.let(0, k);
      int can = Math.min(acts, 20);
      Check.due("of " + acts, x.count(10), can);
      for (int k = 1; k <= can; k++) {
        Check.due("undo", x.undo(), can - k);
        Check.due("cane", x.strand(0), acts - k);
      }
      Check.due("none more", x.undo(), -2);
      Check.due("stays", x.strand(0), acts - can);
    }
    Check.sentence("The last ACT is UNDONE: how many more can be;");
    undoByHand();
    undoEach();
    undoWithin();
    Check.sentence("-2, and nothing happens: none can.");
    Check.unchanged("undo of a new hall", Check.BARE, z -> z.undo(), -2);
    Check.unchanged("undo without a hall", Check.NO_HALL, z -> z.undo(), -2);
    Check.unchanged("undo behind all", z -> {
      Check.BUSY.accept(z);
      for (int k = 0; k < 20; k++) z.undo();
    }, z -> z.undo(), -2);
    ChairCane x = Check.anew(Check.BUSY);
    x.hall();
    Check.due("behind another hall", x.undo(), -2);
  }

  /** Undone one behind the other: minutes, canes of each strand, who sits, who is dropped. */
  private static void undoByHand() {
    ChairCane x = Check.with(Check.FULL, "sit 1 if sitter=minute;sit sits");
    int[] sits = new int[11];
    int[] dropped = new int[11];
    for (int k = 0; k < 7; k++) {
      sits[k] = x.count(6);
      dropped[k] = x.count(7);
      x.minute();
    }
    Check.due("seven minutes", x.count(5), 7);
    for (int k = 0; k < 4; k++) x.let(k, 90 + k);
    int[] told = {40, 50, 0, 12};
    for (int k = 3; k >= 0; k--) {
      Check.due("undo let", x.undo(), 7 + k);
      for (int strand = 0; strand < 4; strand++) Check.due("strand " + strand, x.strand(strand), strand < k ? 90 + strand : told[strand]);
      Check.due("seven minutes yet", x.count(5), 7);
    }
    for (int k = 6; k >= 0; k--) {
      Check.due("undo minute", x.undo(), k);
      Check.due("minute", x.count(5), k);
      Check.due("who sat", x.count(6), sits[k]);
      Check.due("who was dropped", x.count(7), dropped[k]);
    }
  }

  /** Each kind of act, undone, leaves it as it was. */
  private static void undoEach() {
    Consumer<ChairCane> room = z -> {
      Check.BUSY.accept(z);
      for (int k = 0; k < 20; k++) z.undo();
      z.force(2);
    };
    Check.unchanged("a minute undone", room, z -> z.minute() + z.undo());
    Check.unchanged("two minutes undone", room, z -> z.minute() + z.minute() + z.undo() + z.undo());
    Check.unchanged("sit undone", room, z -> z.sit(3) + z.undo());
    Check.unchanged("sit that drops undone", room, z -> z.sit(7) + z.undo());
    Check.unchanged("rise undone", room, z -> z.rise(0) + z.undo());
    Check.unchanged("let undone", room, z -> z.let(3, 99) + z.undo());
    Check.unchanged("sit, fall, help undone", room, z -> z.sit(7) + z.help(7) + z.undo() + z.undo());
    Check.due("rise", Check.anew(room).rise(0), 0);
  }

  /** What is no act is not undone, nor does it stand between acts. */
  private static void undoWithin() {
    ChairCane x = Check.with(Check.CALM, "sit 1", "sit 0");
    x.minute();
    x.force(1);
    x.seed(9);
    x.note(1, 1, 1);
    x.image(0);
    x.feed(1, 2, 3, 4, 5);
    x.ahead(0, 5, 0);
    Check.due("undo", x.undo(), 0);
    Check.due("minute", x.count(5), 0);
    Check.due("who sits", x.count(6), 0);
    Check.due("rule in force", x.count(4), 1);
    Check.due("x", x.count(11), 9);
    Check.due("notes", x.count(9), 1);
    Check.due("tape", x.count(12), 20);
    Check.due("image", x.back(0), 1);
    Check.due("undo of the image", x.undo(), 0);
    x.minute();
    x.sit(0);
    x.sit(0);
    x.help(0);
    Check.due("refused acts are none", x.count(10), 2);
  }
}
