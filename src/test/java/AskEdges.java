import java.util.function.Consumer;

/** The sentences about what can be asked of how it goes on and how much is borne (promises 16 to 23 and 25 to 27). */
final class AskEdges {
  private static final int[] NO_SITTERS = {8, 9, -1, -2, 32, Integer.MIN_VALUE, Integer.MAX_VALUE};
  private static final int[] NO_ZERO_OR_ONE = {-1, -2, 2, 3, Integer.MIN_VALUE, Integer.MAX_VALUE};
  /** 10, 10, 20 of 40 on 20, 30, 41; and one who stands. */
  private static final Consumer<ChairCane> THREE = x -> {
    Check.hall(x, "hall;strand 10;strand 7;chair 20 0;chair 30 0;chair 41 0;chair 5 1;sitter 0 5;sitter 1 5;sitter 2 10;sitter 3 1");
    Check.seat(x, 0, 1, 2);
    x.let(0, 40);
  };

  private AskEdges() {}

  static void run() {
    nothingChanges();
    ahead();
    falls();
    felled();
    tall();
    ease();
    way();
    most();
    heavy();
    restsByMinutes();
    restsOfTwo();
    ring();
    pence();
  }

  private static void nothingChanges() {
    Check.sentence("(By what is asked nothing changes;");
    for (int k = 0; k < 8; k++) {
      int who = k;
      int next = (k + 1) % 8;
      for (int what = 0; what < 3; what++) {
        int w = what;
        Check.unchanged("ahead", Check.BUSY, x -> x.ahead(who, 100, w));
        Check.unchanged("rests", Check.BUSY, x -> x.rests(who, next, 20, w));
      }
      Check.unchanged("way", Check.BUSY, x -> x.way(who));
      Check.unchanged("felled", Check.BUSY, x -> x.felled(who));
      Check.unchanged("strung", Check.BUSY, x -> x.strung(who));
      Check.unchanged("most", Check.BUSY, x -> x.most(who));
      Check.unchanged("pence", Check.BUSY, x -> x.pence(9999, who));
      Check.unchanged("heavy", Check.BUSY, x -> x.heavy(who, 0) + x.heavy(who, 1));
      Check.unchanged("chair", Check.BUSY, x -> x.chair(who, 3) + x.sitter(who, 2) + x.strand(who));
    }
    for (int what = 0; what < 2; what++) {
      int w = what;
      Check.unchanged("falls", Check.BUSY, x -> x.falls(w));
      Check.unchanged("tall", Check.BUSY, x -> x.tall(w));
      Check.unchanged("ease", Check.BUSY, x -> x.ease(w));
      Check.unchanged("ring", Check.BUSY, x -> x.ring(w));
      Check.unchanged("ruled", Check.BUSY, x -> x.ruled(w));
      Check.unchanged("look", Check.BUSY, x -> x.look(60, w));
      Check.unchanged("toasts", Check.BUSY, x -> x.toasts(10, 60, 100, w));
    }
    for (int what = -1; what <= 13; what++) {
      int w = what;
      Check.unchanged("count", Check.BUSY, x -> x.count(w));
    }
  }

  // ---- how it goes on ----

  private static void ahead() {
    Check.promise(16);
    Check.sentence("AHEAD n MINUTES (0 to 100): 0 a SITTER STANDS, 1 SITS, 2 is DROPPED; how much their CHAIR GIVES (0 if they do not SIT); how many are DROPPED.");
    ChairCane x = Check.with("hall;strand 9;strand 9;chair 9 0;chair 10 1;sitter 0 1;sitter 1 1", "sit minute-98", "sit minute-99");
    Check.due("behind 99", x.ahead(0, 99, 0), 0);
    Check.due("behind 100", x.ahead(0, 100, 0), 2);
    Check.due("the other behind 99", x.ahead(1, 99, 0), 0);
    Check.due("the other behind 100", x.ahead(1, 100, 0), 1);
    Check.due("gives behind 99", x.ahead(1, 99, 1), 0);
    Check.due("gives behind 100", x.ahead(1, 100, 1), 9);
    Check.due("who is dropped gives", x.ahead(0, 100, 1), 0);
    Check.due("how many behind 99", x.ahead(0, 99, 2), 0);
    Check.due("how many behind 100", x.ahead(0, 100, 2), 1);
    x.force(1);
    Check.due("in the 101st", x.ahead(1, 100, 0), 0);
    x.minute();
    Check.due("which is the 100th then", x.ahead(1, 100, 0), 1);
    ChairCane now = Check.anew(Check.BUSY);
    for (int k = 0; k < 8; k++) {
      Check.due("now", now.ahead(k, 0, 0), now.sitter(k, 2));
      Check.due("gives now", now.ahead(k, 0, 1), now.chair(7 - k, 3));
    }
    Check.due("dropped now", now.ahead(0, 0, 2), 1);
    Check.sentence("AHEAD what 0: 0 to 2 as told, 1: how much, 2: how many (no SITTER is asked for these).");
    for (int k : NO_SITTERS) Check.due("how many, of " + k, now.ahead(k, 0, 2), 1);
    Check.due("a hall with nobody", Check.anew(Check.BARE).ahead(0, 0, 2), 0);
    Check.sentence("NONE without these, or a HALL.");
    for (int k : NO_SITTERS) {
      Check.unchanged("ahead(" + k + ", 0, 0)", Check.BUSY, y -> y.ahead(k, 0, 0), -1);
      Check.unchanged("ahead(" + k + ", 0, 1)", Check.BUSY, y -> y.ahead(k, 0, 1), -1);
    }
    for (int n : new int[] {-1, 101, 102, Integer.MIN_VALUE, Integer.MAX_VALUE}) {
      for (int what = 0; what < 3; what++) {
        int w = what;
        Check.unchanged("ahead(0, " + n + ", " + w + ")", Check.BUSY, y -> y.ahead(0, n, w), -1);
      }
    }
    for (int what : new int[] {-1, 3, Integer.MIN_VALUE, Integer.MAX_VALUE}) Check.unchanged("ahead(0, 0, " + what + ")", Check.BUSY, y -> y.ahead(0, 0, what), -1);
    for (int what = 0; what < 3; what++) {
      int w = what;
      Check.unchanged("without a hall", Check.NO_HALL, y -> y.ahead(0, 0, w), -1);
    }
    Check.due("ahead(0, 0, 0) of none", Check.anew(Check.BARE).ahead(0, 0, 0), -1);
  }

  private static void falls() {
    Check.promise(17);
    Check.sentence("FALLS: the first MINUTE, this one the first, of 200, in which any are DROPPED; who, as bits.");
    String hall = "hall;strand 9;strand 9;strand 9;chair 9 0;chair 9 1;chair 10 2;sitter 0 1;sitter 1 1;sitter 2 1";
    ChairCane x = Check.with(hall, "sit 1", "sit minute-198", "sit minute-199", "sit minute-3+sitter if sitter<2");
    Check.sentence("FALLS what 0: the MINUTE, 1: who; -2: in none of these.");
    Check.due("this one", x.falls(0), 0);
    Check.due("both", x.falls(1), 3);
    x.force(1);
    Check.due("the 200th", x.falls(0), 199);
    Check.due("who in it", x.falls(1), 3);
    x.force(2);
    Check.due("the 201st", x.falls(0), -2);
    Check.due("who in it", x.falls(1), -2);
    x.minute();
    Check.due("the 200th from here", x.falls(0), 200);
    Check.due("who in it", x.falls(1), 3);
    x.force(3);
    Check.due("the first of two", x.falls(0), 3);
    Check.due("who in the first alone", x.falls(1), 2);
    x.force(-1);
    Check.due("without a rule", x.falls(0), -2);
    x.sit(0);
    Check.due("who has been dropped does not count", x.falls(0), -2);
    Check.due("nobody there", Check.anew(Check.BARE).falls(1), -2);
    Check.sentence("NONE for others, or without a HALL.");
    for (int what : NO_ZERO_OR_ONE) Check.unchanged("falls(" + what + ")", Check.BUSY, y -> y.falls(what), -1);
    Check.unchanged("falls(0) without a hall", Check.NO_HALL, y -> y.falls(0), -1);
    Check.unchanged("falls(1) without a hall", Check.NO_HALL, y -> y.falls(1), -1);
  }

  private static void felled() {
    Check.promise(18);
    Check.sentence("FELLED by one who SITS: who is DROPPED, if that one RISES now, as bits.");
    ChairCane x = Check.anew(THREE);
    // without 0 or 1 the others have 13 and 26; without 2 both have 20, the first falls, the second has 40
    Check.due("felled(0)", x.felled(0), 0);
    Check.due("felled(1)", x.felled(1), 0);
    Check.due("felled(2)", x.felled(2), 3);
    ChairCane alone = Check.anew(Check.BUSY);
    Check.due("felled(4)", alone.felled(4), 32);
    Check.due("felled(5)", alone.felled(5), 16);
    Check.due("who is dropped already does not count", alone.felled(2), 0);
    Check.sentence("FELLED, as bits; NONE without one who SITS.");
    for (int k : new int[] {3, 6, 7}) Check.unchanged("felled(" + k + ")", Check.BUSY, y -> y.felled(k), -1);
    for (int k : NO_SITTERS) Check.unchanged("felled(" + k + ")", Check.BUSY, y -> y.felled(k), -1);
    Check.due("of none", Check.anew(Check.BARE).felled(0), -1);
    Check.unchanged("without a hall", Check.NO_HALL, y -> y.felled(0), -1);
  }

  private static void tall() {
    Check.promise(19);
    Check.sentence("TALL: the one who SITS who had most FELLED; of several the least: who; how many.");
    Check.sentence("TALL what 0: who, 1: how many; -2: nobody SITS.");
    ChairCane x = Check.anew(THREE);
    Check.due("who", x.tall(0), 2);
    Check.due("how many", x.tall(1), 2);
    ChairCane busy = Check.anew(Check.BUSY);
    // 4 fells 5 and 5 fells 4; 0 has 12 on 13 without 1, 1 has 12 on 12 without 0
    Check.due("of several the least", busy.tall(0), 0);
    Check.due("one", busy.tall(1), 1);
    busy.rise(1);
    Check.due("of 4 and 5", busy.tall(0), 4);
    ChairCane calm = Check.with(Check.CALM);
    Check.seat(calm, 2);
    Check.due("who fells none", calm.tall(0), 2);
    Check.due("none", calm.tall(1), 0);
    Check.seat(calm, 1);
    Check.due("the least of two", calm.tall(0), 1);
    Check.due("nobody sits", Check.with(Check.CALM).tall(0), -2);
    Check.due("nobody sits, how many", Check.with(Check.CALM).tall(1), -2);
    ChairCane fallen = Check.with("hall;strand 9;chair 9 0;sitter 0 1");
    fallen.sit(0);
    Check.due("who is dropped does not sit", fallen.tall(0), -2);
    Check.due("nobody there", Check.anew(Check.BARE).tall(0), -2);
    Check.sentence("NONE for others, or without a HALL.");
    for (int what : NO_ZERO_OR_ONE) Check.unchanged("tall(" + what + ")", Check.BUSY, y -> y.tall(what), -1);
    Check.due("tall(2), nobody sits", Check.with(Check.CALM).tall(2), -1);
    for (int what = 0; what < 2; what++) {
      int w = what;
      Check.unchanged("tall without a hall", Check.NO_HALL, y -> y.tall(w), -1);
    }
  }

  // ---- sitting down and rising ----

  private static void ease() {
    Check.promise(20);
    Check.sentence("EASE: of those who STAND the most who can SIT down now, all at once, so that nobody is DROPPED as it SETTLES; "
        + "of several sets the least as bits: how many; the set.");
    Check.sentence("EASE what 0: how many, 1: the set.");
    // alone each has 20, two have 10, three 6, four 5
    ChairCane x = Check.with("hall;strand 20" + ";chair 6 0".repeat(4) + ";sitter 0 5;sitter 1 5;sitter 2 5;sitter 3 5");
    easeIs("four, but not one, two or three", x, 4, 15);
    ChairCane three = Check.with("hall;strand 20;chair 7 0;chair 7 0;chair 7 0;chair 5 0;sitter 0 5;sitter 1 5;sitter 2 5;sitter 3 5");
    easeIs("three without the low one", three, 3, 7);
    // sets that can make together one that can too, so that of those of most there is never a second
    ChairCane apart = Check.with("hall;strand 10;strand 10;chair 11 0;chair 5 0;chair 11 1;chair 5 1;"
        + "sitter 1 1;sitter 0 1;sitter 3 1;sitter 2 1");
    easeIs("one of each strand", apart, 2, 10);
    ChairCane low = Check.with("hall;strand 12;chair 13 0;chair 5 0;chair 5 0;sitter 0 4;sitter 1 3;sitter 2 3");
    // all three of 16 have 6, 4, 4; without 1 or 2 they have 9 and 6, and 0 alone has 16
    low.let(0, 16);
    easeIs("three of 16", low, 3, 7);
    low.let(0, 20);
    easeIs("nobody of 20", low, 0, 0);
    ChairCane beside = Check.with("hall;strand 0;chair 4 0;chair 4 0;chair 60 0;sitter 0 1;sitter 1 1;sitter 2 1");
    Check.seat(beside, 2);
    beside.let(0, 10);
    // beside 2 one has 5, two have 3
    easeIs("two beside one who sits", beside, 2, 3);
    ChairCane other = Check.with("hall;strand 9;chair 60 0;chair 3 0;chair 5 0;sitter 0 1;sitter 1 1;sitter 2 1");
    // all have 3, 0 and 2 have 4
    easeIs("without the one on 3", other, 2, 5);
    Check.seat(other, 0);
    easeIs("beside 0", other, 1, 4);
    Check.seat(other, 2);
    easeIs("beside both", other, 0, 0);
    easeIs("the first alone", Check.with("hall;strand 9;strand 9;chair 10 0;chair 9 1;sitter 0 1;sitter 1 1"), 1, 1);
    easeIs("nobody there", Check.anew(Check.BARE), 0, 0);
    easeIs("who is dropped can't, 7 has 40 on 30, 3 has 0 on 1", Check.anew(Check.BUSY), 1, 8);
    ChairCane all = Check.with(Check.FULL);
    all.let(0, 29);
    all.let(1, 59);
    all.let(3, 11);
    easeIs("all eight", all, 8, 255);
    Check.sentence("NONE for others, or without a HALL.");
    for (int what : NO_ZERO_OR_ONE) Check.unchanged("ease(" + what + ")", Check.BUSY, y -> y.ease(what), -1);
    for (int what = 0; what < 2; what++) {
      int w = what;
      Check.unchanged("ease without a hall", Check.NO_HALL, y -> y.ease(w), -1);
    }
  }

  private static void easeIs(String name, ChairCane x, int many, int set) {
    Check.due(name + ", how many", x.ease(0), many);
    Check.due(name + ", the set", x.ease(1), set);
  }

  private static void way() {
    Check.promise(21);
    Check.sentence("WAY: the first row (least numbers first) by which all who SIT RISE one behind the other, "
        + "so that nobody is DROPPED as it SETTLES behind each: who in which place.");
    wayIs("0, 1, and 2 last", Check.anew(THREE), 0, 1, 2, -1, -1, -1, -1, -1);
    ChairCane x = Check.with("hall;strand 5;chair 30 0;chair 11 0;chair 21 0;sitter 0 1;sitter 1 1;sitter 2 1");
    Check.seat(x, 0, 1, 2);
    wayIs("any row will do", x, 0, 1, 2, -1, -1, -1, -1, -1);
    x.let(0, 24);
    // two have 12, one has 24: 1 must be the first, 0 the last
    wayIs("one row alone", x, 1, 2, 0, -1, -1, -1, -1, -1);
    ChairCane eight = Check.with("hall;strand 0" + ";chair 9 0".repeat(8)
        + ";sitter 7 1;sitter 6 1;sitter 5 1;sitter 4 1;sitter 3 1;sitter 2 1;sitter 1 1;sitter 0 1");
    Check.seat(eight, 0, 1, 2, 3, 4, 5, 6, 7);
    wayIs("all eight", eight, 0, 1, 2, 3, 4, 5, 6, 7);
    eight.let(0, 8);
    wayIs("all eight, 8 on 9", eight, 0, 1, 2, 3, 4, 5, 6, 7);
    eight.rise(3);
    wayIs("seven", eight, 0, 1, 2, 4, 5, 6, 7, -1);
    eight.let(0, 9);
    wayIs("no row of seven", eight, -2, -2, -2, -2, -2, -2, -2, -1);
    // 0 first would drop 1 at the end only; the row looks as far
    ChairCane far = Check.with("hall;strand 10;strand 10;chair 60 0;chair 15 0;chair 60 1;sitter 0 5;sitter 1 5;sitter 2 1");
    Check.seat(far, 0, 1, 2);
    far.let(0, 20);
    wayIs("1 ahead of 0", far, 1, 0, 2, -1, -1, -1, -1, -1);
    Check.sentence("WAY what 0 to 7: who in that place (NONE: so many do not SIT; -2: there is no such row).");
    wayIs("nobody sits", Check.with(Check.CALM), -1, -1, -1, -1, -1, -1, -1, -1);
    wayIs("nobody there", Check.anew(Check.BARE), -1, -1, -1, -1, -1, -1, -1, -1);
    // 5 and 4 drop one another; so many do not SIT is told also where there is no row
    wayIs("no row of five", Check.anew(Check.BUSY), -2, -2, -2, -2, -2, -1, -1, -1);
    Check.sentence("-3 for others, or without a HALL.");
    for (int what : new int[] {-1, -2, 8, 9, Integer.MIN_VALUE, Integer.MAX_VALUE}) Check.unchanged("way(" + what + ")", Check.BUSY, y -> y.way(what), -3);
    Check.unchanged("way(0) without a hall", Check.NO_HALL, y -> y.way(0), -3);
    Check.unchanged("way(7) without a hall", Check.NO_HALL, y -> y.way(7), -3);
  }

  private static void wayIs(String name, ChairCane x, int... want) {
    for (int k = 0; k < want.length; k++) Check.due(name + ", way(" + k + ")", x.way(k), want[k]);
  }

  // ---- how much is borne ----

  private static void most() {
    Check.promise(22);
    Check.sentence("MOST of a STRAND: the greatest CANE, 0 to 99, in place of what it has, so that nobody is DROPPED as it SETTLES now.");
    ChairCane x = Check.anew(THREE);
    // 0 has a fourth and falls at 20, which is 80; 2 has a half and falls at 41, which is 82
    Check.due("most(0)", x.most(0), 79);
    Check.due("nobody sits there", x.most(1), 99);
    Check.due("let so much", x.let(0, 79), 0);
    Check.due("one more, and one behind the other falls", x.let(0, 80), 7);
    ChairCane low = Check.with("hall;strand 0;strand 0;chair 1 0;chair 2 1;sitter 0 20;sitter 1 20");
    Check.seat(low, 0, 1);
    Check.due("0", low.most(0), 0);
    Check.due("1", low.most(1), 1);
    ChairCane high = Check.with("hall;strand 9;chair 50 0;chair 50 0;sitter 0 1;sitter 1 1");
    Check.seat(high, 0);
    Check.due("49", high.most(0), 49);
    Check.seat(high, 1);
    Check.due("99 by two", high.most(0), 99);
    ChairCane less = Check.with("hall;strand 9;chair 49 0;chair 50 0;sitter 0 1;sitter 1 1");
    Check.seat(less, 0, 1);
    Check.due("98 by two is 49 each", less.most(0), 97);
    // by 0 nobody ever falls, so there is always one
    Check.sentence("MOST; -2: by none; NONE without that STRAND.");
    Check.due("most(1) of 99", Check.anew(Check.BUSY).most(1), 99);
    for (int k : new int[] {4, 5, -1, Integer.MIN_VALUE, Integer.MAX_VALUE}) Check.unchanged("most(" + k + ")", Check.BUSY, y -> y.most(k), -1);
    Check.due("most(0) of one", Check.anew(Check.BARE).most(0), 99);
    Check.due("most(1) of one", Check.anew(Check.BARE).most(1), -1);
    Check.unchanged("without a hall", Check.NO_HALL, y -> y.most(0), -1);
  }

  private static void heavy() {
    Check.promise(23);
    Check.sentence("HEAVY of a SITTER who is not DROPPED: numbers 1 to 20 as their WEIGHT, in place of what it is, "
        + "so that nobody is DROPPED, if they SIT (down, too) now and it SETTLES: how many; the least.");
    Check.sentence("HEAVY what 0: how many, 1: the least (-2: there is none).");
    ChairCane x = Check.anew(THREE);
    heavyIs("all twenty", x, 2, 20, 1);
    // 40w/(15+w) is below 20 if w is below 15; the others have the more the less w is, but never too much
    heavyIs("1 to 14", x, 0, 14, 1);
    // 40w/(15+w) is below 30 always
    heavyIs("who has 30", x, 1, 20, 1);
    heavyIs("7 on 5, who would sit down", x, 3, 0, -2);
    ChairCane other = Check.with("hall;strand 11;chair 12 0;chair 60 0;sitter 0 10;sitter 1 10");
    Check.seat(other, 0, 1);
    other.let(0, 20);
    // 200/(10+w) is below 12 from 7 on
    heavyIs("7 to 20", other, 1, 14, 7);
    other.let(0, 36);
    // 360/(10+w) is below 12 from 20.1 on: by 20 it is 12
    Check.due("falls", other.count(7), 1);
    ChairCane last = Check.with("hall;strand 11;chair 12 0;chair 60 0;sitter 0 10;sitter 1 20");
    Check.seat(last, 0, 1);
    last.let(0, 35);
    // 350/(10+w): by 20 it is 11, by 19 12
    heavyIs("20 alone", last, 1, 1, 20);
    ChairCane down = Check.with("hall;strand 10;chair 60 0;chair 2 0;sitter 0 10;sitter 1 10");
    Check.seat(down, 0);
    // 10w/(10+w) is below 2 if w is 1 or 2
    heavyIs("who would sit down with 1 or 2", down, 1, 2, 1);
    Check.due("who weighs 10 falls", down.sit(1), 2);
    Check.sentence("NONE without these (not DROPPED).");
    Check.due("who is dropped", down.heavy(1, 0), -1);
    Check.unchanged("heavy(6, 0)", Check.BUSY, y -> y.heavy(6, 0), -1);
    Check.unchanged("heavy(6, 1)", Check.BUSY, y -> y.heavy(6, 1), -1);
    for (int k : NO_SITTERS) Check.unchanged("heavy(" + k + ", 0)", Check.BUSY, y -> y.heavy(k, 0), -1);
    for (int what : NO_ZERO_OR_ONE) Check.unchanged("heavy(0, " + what + ")", Check.BUSY, y -> y.heavy(0, what), -1);
    Check.due("of none", Check.anew(Check.BARE).heavy(0, 0), -1);
    Check.unchanged("without a hall", Check.NO_HALL, y -> y.heavy(0, 0), -1);
  }

  private static void heavyIs(String name, ChairCane x, int sitter, int many, int least) {
    Check.due(name + ", how many", x.heavy(sitter, 0), many);
    Check.due(name + ", the least", x.heavy(sitter, 1), least);
  }

  // ---- rests of two ----

  private static void restsByMinutes() {
    Check.promise(25);
    Check.sentence("RESTS of two SITTERS who are not DROPPED for n MINUTES (1 to 20): each SITS or STANDS from now on, whatever the RULE says "
        + "(from (1) of this MINUTE on, at their number; who is DROPPED stays so):");
    for (String rule : new String[] {"sit 0", "sit 1"}) {
      restsAre("whatever the rule says", Check.with(Check.CALM, rule), 0, 1, 1, 1, 1, 1);
    }
    ChairCane sitting = Check.with(Check.CALM);
    Check.seat(sitting, 0, 1, 2);
    restsAre("without a rule they stand if they are to", sitting, 0, 1, 1, 1, 1, 1);
    // 1 alone falls; 0, who is asked ahead of it, sits down while none sits
    ChairCane ahead = Check.with("hall;strand 12;strand 0;chair 60 0;chair 12 0;chair 5 1;sitter 0 1;sitter 1 1;sitter 2 1", "sit 1 if others=0");
    restsAre("at their number", ahead, 1, 2, 1, 1, 1, 1);
    // 2, who is asked behind 1, stands as 1 sits
    ChairCane behind = Check.with("hall;strand 12;strand 0;chair 5 1;chair 12 0;chair 60 0;sitter 0 1;sitter 1 1;sitter 2 1", "sit 1 if others=0");
    restsAre("at their number", behind, 0, 1, 1, 1, 1, 0);
    // from the second minute on 0 would not fall beside 2, but it has fallen in the first
    ChairCane late = Check.with("hall;strand 9;strand 0;chair 9 0;chair 5 1;chair 60 0;sitter 0 1;sitter 1 1;sitter 2 1", "sit minute");
    restsAre("who is dropped stays so", late, 0, 1, 20, 1, 0, 1);
    late.minute();
    restsAre("from now on", late, 0, 1, 20, 1, 1, 1);
    Check.sentence("each has in how many of these they SIT behind it, and 1 for each 10 their CHAIR GIVES behind it, downwards, less 10 if they are DROPPED then:");
    payBySitting();
    payByGiving();
    payByFalling();
  }

  /** 1 for each minute: who sits for n minutes and then falls has n - 10, who stands has 0. */
  private static void payBySitting() {
    for (int n = 1; n <= 20; n++) {
      // 1 falls in the last of n minutes, for then 2 rises; 0 is apart, and sits
      ChairCane x = Check.with("hall;strand 0;strand 9;chair 5 0;chair 9 1;chair 60 1;sitter 0 1;sitter 1 1;sitter 2 1", "sit " + (n - 1) + "-minute");
      int stays = n - 1;
      Check.due("sits for " + stays + ", then falls", x.rests(0, 1, n, 2), stays > 10 ? 1 : 0);
      Check.due("0 sits", x.rests(0, 1, n, 1), 1);
      Check.due("how many", x.rests(0, 1, n, 0), stays == 10 ? 2 : 1);
      Check.due("the other way round", x.rests(1, 0, n, 1), stays > 10 ? 1 : 0);
    }
  }

  /** 1 for each 10 behind each minute: with 9 of them less 10, with 10 and 19 of them twice as many less 10. */
  private static void payByGiving() {
    int[] canes = {9, 10, 19, 20, 29, 30};
    for (int cane : canes) {
      for (int stays = 1; stays <= 11; stays++) {
        // 1 sits for so many minutes beside 2, who weighs as much, and has cane each; then alone twice of it, and falls
        String hall = "hall;strand 0;strand " + 2 * cane + ";chair 5 0;chair " + (cane + 1) + " 1;chair 60 1;sitter 0 1;sitter 1 7;sitter 2 7";
        ChairCane x = Check.with(hall, "sit " + stays + "-minute");
        int has = stays * (1 + cane / 10) - 10;
        Check.due("sits for " + stays + " with " + cane, x.rests(0, 1, stays + 1, 2), has > 0 ? 1 : 0);
        Check.due("how many", x.rests(0, 1, stays + 1, 0), has == 0 ? 2 : 1);
      }
    }
  }

  private static void payByFalling() {
    // who falls in the first minute has 10 less once, however long it goes on: 11 by sitting elsewhere is more
    ChairCane x = Check.with("hall;strand 9;strand 0;chair 9 0;chair 5 1;sitter 0 1;sitter 1 1");
    for (int n : new int[] {1, 2, 10, 11, 19, 20}) restsAre("0 stands for " + n, x, 0, 1, n, 1, 0, 1);
  }

  private static void restsOfTwo() {
    Check.promise(25);
    Check.sentence("twos by which neither would have more by the other way: how many; the first (0 STANDS, 1 SITS; by the first one, then the second one).");
    Check.sentence("RESTS what 0: how many, 1, 2: ways of the first (-2: there is none).");
    // either both or none: alone each falls
    ChairCane both = Check.with("hall;strand 12;chair 10 0;chair 10 0;sitter 0 5;sitter 1 5");
    restsAre("none or both", both, 0, 1, 1, 2, 0, 0);
    // 1 falls beside 0 and alone
    ChairCane one = Check.with("hall;strand 9;chair 10 0;chair 4 0;sitter 0 5;sitter 1 5");
    restsAre("0 drops 1", one, 0, 1, 1, 1, 1, 0);
    restsAre("asked the other way", one, 1, 0, 1, 1, 0, 1);
    restsEither();
    restsNone();
    Check.sentence("NONE without these (unlike, not DROPPED).");
    Check.unchanged("the same", Check.BUSY, y -> y.rests(0, 0, 1, 0), -1);
    Check.unchanged("the first dropped", Check.BUSY, y -> y.rests(6, 0, 1, 0), -1);
    Check.unchanged("the second dropped", Check.BUSY, y -> y.rests(0, 6, 1, 0), -1);
    for (int k : NO_SITTERS) {
      Check.unchanged("rests(" + k + ", 0, 1, 0)", Check.BUSY, y -> y.rests(k, 0, 1, 0), -1);
      Check.unchanged("rests(0, " + k + ", 1, 0)", Check.BUSY, y -> y.rests(0, k, 1, 0), -1);
    }
    for (int n : new int[] {0, -1, 21, 22, Integer.MIN_VALUE, Integer.MAX_VALUE}) Check.unchanged("rests for " + n, Check.BUSY, y -> y.rests(0, 1, n, 0), -1);
    for (int what : new int[] {-1, 3, Integer.MIN_VALUE, Integer.MAX_VALUE}) {
      Check.unchanged("rests what " + what, Check.BUSY, y -> y.rests(0, 1, 1, what), -1);
    }
    Check.due("of none", Check.anew(Check.BARE).rests(0, 1, 1, 0), -1);
    Check.unchanged("without a hall", Check.NO_HALL, y -> y.rests(0, 1, 1, 0), -1);
  }

  /** Each sits if the other stands: of these two the first is that in which the first one stands. */
  private static void restsEither() {
    // 2 sits down beside one of them, who has 6 then; beside nobody both have 15, and one alone would have 30
    ChairCane x = Check.with("hall;strand 30;chair 12 0;chair 12 0;chair 60 0;sitter 0 1;sitter 1 1;sitter 2 4", "sit 1 if others=1");
    restsAre("one of them", x, 0, 1, 1, 2, 0, 1);
    restsAre("one of them, the other way", x, 1, 0, 1, 2, 0, 1);
    // each sits for ten minutes beside a third one, and falls then: as good as standing
    ChairCane all = Check.with("hall;strand 9;strand 9;chair 9 0;chair 9 1;chair 60 0;chair 60 1;sitter 0 1;sitter 1 1;sitter 2 1;sitter 3 1",
        "sit 10-minute");
    restsAre("all four", all, 0, 1, 20, 4, 0, 0);
    restsAre("both sit", all, 0, 1, 10, 1, 1, 1);
  }

  /** 0 wants to do as 1 does, and 1 to do other than 0. */
  private static void restsNone() {
    ChairCane x = Check.with("hall;strand 50;chair 50 0;chair 10 0;chair 60 0;chair 60 0;sitter 0 1;sitter 1 2;sitter 2 4;sitter 3 20",
        "sit 1 if sitter=2 and press=3;sit 1 if sitter=3 and press=2");
    // 0 alone has 50 and falls; 1 has 4 beside 3; both have 7 and 14 beside 2: 1 falls, and 0 has 10
    restsAre("no two", x, 0, 1, 1, 0, -2, -2);
    restsAre("no two, the other way", x, 1, 0, 1, 0, -2, -2);
  }

  private static void restsAre(String name, ChairCane x, int one, int other, int n, int many, int first, int second) {
    Check.due(name + ", how many", x.rests(one, other, n, 0), many);
    Check.due(name + ", the first", x.rests(one, other, n, 1), first);
    Check.due(name + ", the second", x.rests(one, other, n, 2), second);
  }

  // ---- rings and pence ----

  private static void ring() {
    Check.promise(26);
    Check.sentence("RING: the first MINUTE, this one the first, of 60, at whose begin all SITTERS are as they are at the begin of a later one, "
        + "60 MINUTES from now at most; how much later the first such is.");
    Check.sentence("RING what 0: the MINUTE, 1: how much later; -2: there is none.");
    String six = "hall;strand 0" + ";chair 5 0".repeat(6) + ";sitter 0 1;sitter 1 1;sitter 2 1;sitter 3 1;sitter 4 1;sitter 5 1";
    StringBuilder bits = new StringBuilder();
    for (int k = 0; k < 6; k++) bits.append(k == 0 ? "" : ";").append("sit minute/" + (1 << k) + "%2 if sitter=" + k);
    // from 1 on, at the begin of each minute the sitters are the bits of the one before, but for one in which they are 3
    for (int unlike = 58; unlike <= 62; unlike++) {
      ChairCane x = Check.with(six, "sit 2-sitter if minute=" + unlike + ";" + bits);
      Check.due("0 and 1 are alike", x.ring(0), 0);
      Check.due("one later", x.ring(1), 1);
      x.minute();
      boolean within = unlike <= 60;
      Check.due("3 behind " + unlike, x.ring(0), within ? 4 : -2);
      Check.due("how much later", x.ring(1), within ? unlike + 1 - 4 : -2);
    }
    // the last MINUTE that can be the first: the 60th, and the 61st begin alike
    for (int same = 59; same <= 62; same++) {
      ChairCane x = Check.with(six, "sit sits if minute=" + same + ";" + bits);
      x.minute();
      Check.due("same behind " + same, x.ring(0), same <= 60 ? same : -2);
      Check.due("one later", x.ring(1), same <= 60 ? 1 : -2);
    }
    ChairCane first = Check.with(Check.CALM, "sit 1 if minute%3=sitter", "sit 1-sits", "sit 1");
    // 0 alone behind 0, 1 alone behind 1, 2 alone behind 2, 0 alone behind 3
    first.minute();
    Check.due("this one", first.ring(0), 1);
    Check.due("three later", first.ring(1), 3);
    first.force(1);
    Check.due("by turns", first.ring(1), 2);
    first.force(2);
    Check.due("from then on", first.ring(0), 2);
    first.force(-1);
    Check.due("without a rule", first.ring(0), 1);
    Check.due("at once", first.ring(1), 1);
    // who is dropped is not as one who stands
    ChairCane fallen = Check.with("hall;strand 9;chair 9 0;sitter 0 1", "sit 1 if minute=1");
    Check.due("stands twice", fallen.ring(0), 0);
    fallen.minute();
    Check.due("falls, and lies from 2 on", fallen.ring(0), 2);
    Check.due("nobody there", Check.anew(Check.BARE).ring(1), 1);
    Check.sentence("NONE for others, or without a HALL.");
    for (int what : NO_ZERO_OR_ONE) Check.unchanged("ring(" + what + ")", Check.BUSY, y -> y.ring(what), -1);
    for (int what = 0; what < 2; what++) {
      int w = what;
      Check.unchanged("ring without a hall", Check.NO_HALL, y -> y.ring(w), -1);
    }
  }

  private static void pence() {
    Check.promise(27);
    Check.sentence("PENCE (0 to 9999) among SITTERS by how much their CHAIRS GIVE now: each the part downwards; what is left, one each, "
        + "to those whose part lost most by that, of several the least first (nothing, if none GIVES any).");
    ChairCane x = Check.anew(THREE);
    penceAre(x, 0, 0, 0, 0, 0);
    penceAre(x, 1, 0, 0, 1, 0);
    penceAre(x, 2, 1, 0, 1, 0);
    penceAre(x, 3, 1, 1, 1, 0);
    penceAre(x, 4, 1, 1, 2, 0);
    penceAre(x, 40, 10, 10, 20, 0);
    penceAre(x, 9998, 2500, 2499, 4999, 0);
    penceAre(x, 9999, 2500, 2500, 4999, 0);
    ChairCane thirds = Check.with("hall;strand 3;chair 60 0;chair 60 0;chair 60 0;sitter 0 1;sitter 1 1;sitter 2 1");
    Check.seat(thirds, 0, 1, 2);
    penceAre(thirds, 1, 1, 0, 0);
    penceAre(thirds, 2, 1, 1, 0);
    penceAre(thirds, 3, 1, 1, 1);
    penceAre(thirds, 9999, 3333, 3333, 3333);
    penceAre(thirds, 9998, 3333, 3333, 3332);
    thirds.let(0, 2);
    // 2 by three gives nothing to anybody
    penceAre(thirds, 9999, 0, 0, 0);
    penceAre(Check.with(Check.CALM), 100, 0, 0, 0);
    ChairCane one = Check.with("hall;strand 1;chair 2 0;chair 2 0;sitter 0 1;sitter 1 1");
    Check.seat(one, 1);
    // 1 is all that is given
    penceAre(one, 7, 0, 7);
    // 1, 2, 4 of 7: of 10 they lose 3, 6, 5 of 7
    ChairCane seven = Check.with("hall;strand 7;chair 60 0;chair 60 0;chair 60 0;sitter 0 1;sitter 1 2;sitter 2 4");
    Check.seat(seven, 0, 1, 2);
    penceAre(seven, 10, 1, 3, 6);
    penceAre(seven, 9, 1, 3, 5);
    Check.sentence("PENCE of a SITTER; NONE without these.");
    for (int much : new int[] {-1, 10000, Integer.MIN_VALUE, Integer.MAX_VALUE}) Check.unchanged("pence(" + much + ", 0)", Check.BUSY, y -> y.pence(much, 0), -1);
    for (int k : NO_SITTERS) Check.unchanged("pence(1, " + k + ")", Check.BUSY, y -> y.pence(1, k), -1);
    Check.due("who is dropped", Check.anew(Check.BUSY).pence(9999, 6), 0);
    Check.due("who stands", Check.anew(Check.BUSY).pence(9999, 3), 0);
    Check.due("of none", Check.anew(Check.BARE).pence(1, 0), -1);
    Check.unchanged("without a hall", Check.NO_HALL, y -> y.pence(1, 0), -1);
  }

  private static void penceAre(ChairCane x, int much, int... want) {
    int all = 0;
    for (int k = 0; k < want.length; k++) {
      Check.due(much + " pence, " + k, x.pence(much, k), want[k]);
      all += x.pence(much, k);
    }
    if (x.count(8) > 0) Check.due("all of " + much, all, much);
  }
}
