import java.util.function.Consumer;

/** The sentences about notes, draws, counts and images (promises 24 and 28 to 35). */
final class NoteEdges {
  private static final int[] NO_SITTERS = {8, 9, -1, -2, 32, Integer.MIN_VALUE, Integer.MAX_VALUE};
  private static final int[] NO_ZERO_OR_ONE = {-1, -2, 2, 3, Integer.MIN_VALUE, Integer.MAX_VALUE};
  private static final Consumer<ChairCane> TEN_NOTES = x -> {
    Check.BUSY.accept(x);
    for (int k = 3; k < 10; k++) x.note(k, k % 8, 0);
  };

  private NoteEdges() {}

  static void run() {
    note();
    notesAreSo();
    strung();
    ruled();
    look();
    seed();
    toasts();
    toastsByHand();
    count();
    image();
    back();
  }

  // ---- notes ----

  private static void note() {
    Check.promise(28);
    Check.sentence("NOTES 0 to 9, told: at the begin of the n-th MINUTE of all (0 to 60) a SITTER 0 STOOD, 1 SAT, 2 was DROPPED.");
    Check.sentence("A NOTE (n NONE: there are none then, 0): how many;");
    ChairCane x = Check.with(Check.CALM);
    Check.due("the first minute", x.note(0, 0, 0), 1);
    Check.due("the last minute", x.note(60, 2, 2), 2);
    Check.due("the same again", x.note(60, 2, 2), 3);
    Check.due("another of the same", x.note(60, 2, 1), 4);
    for (int k = 5; k <= 10; k++) Check.due("note", x.note(k, 1, 1), k);
    Check.due("none then", x.note(-1, 0, 0), 0);
    Check.due("how many", x.count(9), 0);
    Check.due("none then, of none", x.note(-1, 99, -99), 0);
    Check.due("again", x.note(30, 1, 0), 1);
    Check.due("none is an act", x.count(10), 0);
    Check.due("none then without a hall", new ChairCane().note(-1, 0, 0), 0);
    Check.due("none then of ten", Check.anew(TEN_NOTES).note(-1, 0, 0), 0);
    Check.sentence("-2, and nothing happens, without these, or if there are 10.");
    for (int n : new int[] {-2, 61, 62, Integer.MIN_VALUE, Integer.MAX_VALUE}) Check.unchanged("note(" + n + ", 0, 0)", Check.BUSY, y -> y.note(n, 0, 0), -2);
    for (int k : NO_SITTERS) Check.unchanged("note(0, " + k + ", 0)", Check.BUSY, y -> y.note(0, k, 0), -2);
    for (int state : new int[] {-1, 3, Integer.MIN_VALUE, Integer.MAX_VALUE}) Check.unchanged("note(0, 0, " + state + ")", Check.BUSY, y -> y.note(0, 0, state), -2);
    Check.due("ten", Check.anew(TEN_NOTES).count(9), 10);
    Check.unchanged("an eleventh", TEN_NOTES, y -> y.note(0, 0, 1), -2);
    Check.unchanged("of none", Check.BARE, y -> y.note(0, 0, 0), -2);
    Check.unchanged("without a hall", Check.NO_HALL, y -> y.note(0, 0, 0), -2);
  }

  private static void notesAreSo() {
    Check.sentence("NOTES 0 to 9, told: at the begin of the n-th MINUTE of all (0 to 60) a SITTER 0 STOOD, 1 SAT, 2 was DROPPED.");
    // 0 falls in minute 0, 1 sits from minute 59 on
    String hall = "hall;strand 9;strand 8;chair 9 0;chair 9 1;sitter 0 1;sitter 1 1";
    String text = "sit 1 if minute=0 and sitter=0;sit minute-58";
    int[][] so = {{0, 0, 0}, {0, 1, 0}, {1, 0, 2}, {1, 1, 0}, {59, 0, 2}, {59, 1, 0}, {60, 0, 2}, {60, 1, 1}};
    for (int[] n : so) {
      for (int state = 0; state < 3; state++) {
        ChairCane x = Check.with(hall, text);
        x.note(n[0], n[1], state);
        boolean is = state == n[2];
        Check.due("rule by " + n[0] + " " + n[1] + " " + state, x.ruled(1), is ? state == 0 ? -1 : 0 : state == 0 ? -1 : -2);
        Check.due("chair by " + n[0] + " " + n[1] + " " + state, x.strung(1) >> 1 & 1, is ? 1 : 0);
      }
    }
    // the tenth note counts as the first
    for (int wrong = 0; wrong < 10; wrong++) {
      ChairCane x = Check.with(hall, text);
      for (int k = 0; k < 10; k++) x.note(60, 1, k == wrong ? 0 : 1);
      Check.due("none is so by a wrong note " + wrong, x.ruled(0), 0);
    }
  }

  private static void strung() {
    Check.promise(24);
    Check.sentence("STRUNG of a CHAIR: STRANDS on which it can be, in place of what the text told, so that from the begin on, "
        + "by the RULE IN FORCE, all else as the text told it, all NOTES are so, as bits.");
    Check.sentence("STRUNG, as bits;");
    ChairCane x = Check.with("hall;strand 10;strand 20;strand 5;strand 19;chair 20 0;chair 20 0;sitter 0 5;sitter 1 15", "sit 1", "sit 0");
    Check.due("without notes", x.strung(0), 15);
    x.note(1, 0, 2);
    // alone on 1 it has 20 and falls, on 3 it has 19
    Check.due("falls", x.strung(0), 2);
    Check.due("the other chair does not drop 0", x.strung(1), 0);
    x.force(1);
    Check.due("by the rule in force", x.strung(0), 0);
    x.force(-1);
    Check.due("by none", x.strung(0), 0);
    x.force(0);
    x.let(3, 99);
    x.sit(0);
    x.minute();
    Check.due("from the begin on, as the text told it", x.strung(0), 2);
    x.note(-1, 0, 0);
    x.note(0, 0, 1);
    Check.due("nobody sat at the begin", x.strung(0), 0);
    x.note(-1, 0, 0);
    x.note(60, 0, 1);
    Check.due("sits for long", x.strung(0), 13);
    x.note(60, 1, 0);
    Check.due("all notes", x.strung(0), 0);
    ChairCane nobodys = Check.with("hall;strand 10;strand 20;chair 20 0;chair 9 1;sitter 0 5", "sit 1");
    nobodys.note(2, 0, 1);
    Check.due("nobody's", nobodys.strung(1), 3);
    Check.due("somebody's", nobodys.strung(0), 1);
    ChairCane one = Check.with("hall;strand 5;chair 9 0;sitter 0 1");
    Check.due("one strand", one.strung(0), 1);
    // the words of the rule see the other strand
    ChairCane word = Check.with("hall;strand 10;strand 20;chair 60 0;sitter 0 5", "sit cane-15");
    word.note(1, 0, 1);
    Check.due("by its cane", word.strung(0), 2);
    Check.sentence("NONE without that CHAIR.");
    for (int k : NO_SITTERS) Check.unchanged("strung(" + k + ")", Check.BUSY, y -> y.strung(k), -1);
    Check.due("strung(0) of one", Check.anew(Check.BARE).strung(0), 1);
    Check.due("strung(1) of one", Check.anew(Check.BARE).strung(1), -1);
    Check.due("without chairs", Check.with("hall;strand 1").strung(0), -1);
    Check.unchanged("without a hall", Check.NO_HALL, y -> y.strung(0), -1);
  }

  private static void ruled() {
    Check.promise(29);
    Check.sentence("RULED: which of the RULES, and of none, so that from the begin on, all as the text told it, all NOTES are so: "
        + "how many; the first (none ahead of 0, told as NONE).");
    Check.sentence("RULED what 0: how many, 1: the first (NONE: none; -2: there is none such).");
    ChairCane x = Check.with(Check.CALM);
    ruledIs("none alone", x, 1, -1);
    x.note(5, 0, 1);
    ruledIs("no rule has 0 sit", x, 0, -2);
    String[] texts = {"sit 1", "sit sitter", "sit minute", "sit 0", "sit minute-59", "sit minute-1"};
    for (String text : texts) Check.rule(x, text);
    ruledIs("0, 2, 5", x, 3, 0);
    x.note(1, 0, 0);
    ruledIs("2, 5", x, 2, 2);
    x.note(2, 0, 0);
    ruledIs("5, the last", x, 1, 5);
    x.note(-1, 0, 0);
    ruledIs("all seven", x, 7, -1);
    x.note(60, 0, 0);
    // at the begin of the 60th the minutes up to 59 are over
    ruledIs("none, 1, 3, 4", x, 4, -1);
    x.note(60, 1, 1);
    ruledIs("1 alone", x, 1, 1);
    x.force(3);
    x.let(0, 50);
    x.sit(0);
    x.minute();
    ruledIs("from the begin on, whatever was done", x, 1, 1);
    ChairCane told = Check.with("hall;strand 9;chair 9 0;sitter 0 1", "sit 1");
    told.let(0, 8);
    told.note(1, 0, 2);
    ruledIs("as the text told it", told, 1, 0);
    ruledIs("nobody there", Check.anew(Check.BARE), 1, -1);
    ruledWhateverIs();
    Check.sentence("-3 for others, or without a HALL.");
    for (int what : NO_ZERO_OR_ONE) Check.unchanged("ruled(" + what + ")", Check.BUSY, y -> y.ruled(what), -3);
    for (int what = 0; what < 2; what++) {
      int w = what;
      Check.unchanged("ruled without a hall", Check.NO_HALL, y -> y.ruled(w), -3);
    }
  }

  /** From the begin on, also if some sit, another hall was told with a FAULT, or it was gone back to. */
  private static void ruledWhateverIs() {
    String hall = "hall;strand 9;chair 9 0;chair 60 0;sitter 0 1;sitter 1 1";
    ChairCane x = Check.with(hall, "sit 1-sitter", "sit 1 if others=0");
    x.note(1, 0, 2);
    x.note(1, 1, 0);
    ruledIs("0 falls alone, by both rules", x, 2, 0);
    Check.seat(x, 1);
    ruledIs("though 1 sits now", x, 2, 0);
    Check.seat(x, 0);
    ruledIs("though both sit now", x, 2, 0);
    Check.hall(x, "hall;strand 5;strand 6;chair");
    ruledIs("behind a hall with a fault", x, 2, 0);
    Check.due("strung behind a hall with a fault", x.strung(0), 1);
    x.image(0);
    Check.hall(x, "hall;strand 5;chair 60 0;chair 60 0;sitter 0 1;sitter 1 1");
    x.note(0, 1, 1);
    x.note(5, 1, 1);
    ruledIs("another hall", x, 0, -2);
    x.back(0);
    ruledIs("gone back", x, 2, 0);
    Check.due("strung, gone back", x.strung(0), 1);
    x.image(1);
    x.note(-1, 0, 0);
    x.note(0, 1, 0);
    x.note(0, 0, 0);
    ruledIs("other notes", x, 3, -1);
    x.back(1);
    ruledIs("the notes of the image", x, 2, 0);
  }

  private static void ruledIs(String name, ChairCane x, int many, int first) {
    Check.due(name + ", how many", x.ruled(0), many);
    Check.due(name + ", the first", x.ruled(1), first);
  }

  private static void look() {
    Check.promise(30);
    Check.sentence("LOOK at the begin of the n-th MINUTE: the SITTER by whose state (0 to 2) these part best: "
        + "the most alike are fewest, of several the least; how many.");
    Check.sentence("LOOK (n 0 to 60) what 0: the SITTER, 1: how many; -2: no RULE is so, or there are no SITTERS.");
    ChairCane x = Check.with(Check.CALM, "sit 1", "sit sitter", "sit sitter-1", "sit minute");
    lookIs("all stand at 0", x, 0, 0, 5);
    // behind minute 0: none 000, 111, 011, 001, 000; behind 1: 000, 111, 011, 001, 111 (of 0, 1, 2)
    lookIs("4 to 1, 3 to 2, 2 to 3", x, 1, 1, 3);
    lookIs("3 to 2, 2 to 3, 1 to 4", x, 2, 0, 3);
    x.note(1, 2, 0);
    lookIs("none and the last", x, 60, 0, 1);
    x.note(2, 2, 0);
    lookIs("none alone", x, 60, 0, 1);
    x.note(1, 2, 1);
    lookIs("no rule is so", x, 0, -2, -2);
    // for the three states of one sitter there are three rules
    ChairCane states = Check.with("hall;strand 8;strand 9;strand 0;chair 9 0;chair 9 1;chair 60 1;sitter 0 1;sitter 1 1;sitter 2 20",
        "sit 1 if sitter>0", "sit 1 if sitter=1");
    // 0 stands by all; 1 stands, sits beside 2, falls alone; 2 stands, sits, stands
    lookIs("three states", states, 1, 1, 1);
    ChairCane late = Check.with(Check.CALM, "sit minute-58", "sit minute-59");
    lookIs("at 59 all are alike", late, 59, 0, 3);
    lookIs("at 60 one is unlike", late, 60, 0, 2);
    late.let(0, 7);
    late.sit(1);
    late.minute();
    lookIs("from the begin on", late, 60, 0, 2);
    lookBehindNotes();
    lookIs("without sitters", Check.anew(Check.BARE), 0, -2, -2);
    lookIs("without sitters at 60", Check.anew(Check.BARE), 60, -2, -2);
    Check.sentence("NONE without these, or a HALL.");
    for (int n : new int[] {-1, 61, 62, Integer.MIN_VALUE, Integer.MAX_VALUE}) Check.unchanged("look(" + n + ", 0)", Check.BUSY, y -> y.look(n, 0), -1);
    for (int what : NO_ZERO_OR_ONE) Check.unchanged("look(0, " + what + ")", Check.BUSY, y -> y.look(0, what), -1);
    Check.due("look(61, 0) of none", Check.anew(Check.BARE).look(61, 0), -1);
    Check.due("look(0, 2) of none", Check.anew(Check.BARE).look(0, 2), -1);
    Check.due("look(0, 2), no rule is so", x.look(0, 2), -1);
    for (int what = 0; what < 2; what++) {
      int w = what;
      Check.unchanged("look without a hall", Check.NO_HALL, y -> y.look(0, w), -1);
    }
  }

  /** The state that most have may be any of the three; and a note does not shift the begin. */
  private static void lookBehindNotes() {
    String hall = "hall;strand 9;chair 9 0;sitter 0 1";
    lookIs("two fall, one stands", Check.with(hall, "sit 1", "sit 2"), 1, 0, 2);
    lookIs("one falls, two stand", Check.with(hall, "sit 1", "sit 0"), 1, 0, 2);
    lookIs("two sit, one stands", Check.with(Check.CALM, "sit 1", "sit 2"), 1, 0, 2);
    // behind 0, 1, 2: none 000, 100 and 100; at the begin of 1 none and the first are alike
    ChairCane x = Check.with(Check.CALM, "sit minute%2", "sit 1-sitter if minute>0");
    x.note(2, 1, 0);
    // at 1: 0 stands by none and by the second; at 2: 0 stands by none, sits by the second
    lookIs("at 1 behind a note of 2", x, 1, 0, 2);
    lookIs("at 2 behind a note of 2", x, 2, 0, 1);
    x.note(0, 0, 0);
    x.note(3, 2, 0);
    lookIs("at 1 behind a note of 3", x, 1, 0, 2);
  }

  private static void lookIs(String name, ChairCane x, int n, int who, int many) {
    Check.due(name + ", who", x.look(n, 0), who);
    Check.due(name + ", how many", x.look(n, 1), many);
  }

  // ---- draws ----

  private static void seed() {
    Check.promise(31);
    Check.sentence("x becomes a number: what it was; NONE, and nothing happens, below 0.");
    ChairCane x = new ChairCane();
    Check.due("0 at first", x.seed(1), 0);
    Check.due("1", x.seed(0), 1);
    Check.due("0", x.seed(Integer.MAX_VALUE), 0);
    Check.due("the most", x.seed(5), Integer.MAX_VALUE);
    Check.due("x", x.count(11), 5);
    for (int below : new int[] {-1, -2, Integer.MIN_VALUE}) {
      Check.unchanged("seed(" + below + ")", Check.BUSY, y -> y.seed(below), -1);
      Check.unchanged("seed(" + below + ") without a hall", Check.NO_HALL, y -> y.seed(below), -1);
    }
  }

  private static void toasts() {
    Check.promise(32);
    Check.sentence("DRAWS: x (0 to 2147483647; 0 at first) becomes x * 1103515245 + 12345, of 2147483648 the rest; a DRAW is x / 65536.");
    // who is drawn first of three, by the first x told here: its second draw, if p is 100
    long[] seeds = {0, 1, 2, 12345, 65535, 65536, 1103515245, 2147483646, 2147483647};
    for (long seed : seeds) {
      long first = (seed * 1103515245L + 12345L) % 2147483648L;
      long second = (first * 1103515245L % 2147483648L + 12345L) % 2147483648L;
      ChairCane x = Check.with(Check.CALM, "sit 1 if sits=1 and sitter=" + second / 65536 % 3);
      x.seed((int) seed);
      int below = (int) (first / 65536 % 100);
      Check.due("who is drawn by " + seed, x.toasts(1, 1, 100, 1), 1);
      Check.due("is not below " + below, x.toasts(1, 1, below, 1), 0);
      Check.due("is below " + (below + 1), x.toasts(1, 1, below + 1, 1), 1);
      Check.due("x", x.count(11), (int) seed);
    }
    Check.sentence("TOASTS what 0: how many are DROPPED, 1: how many SIT.");
    ChairCane calm = Check.with(Check.CALM, "sit 1");
    Check.due("once, one minute", calm.toasts(1, 1, 0, 1), 3);
    Check.due("ten times, sixty minutes", calm.toasts(10, 60, 0, 1), 30);
    Check.due("all are drawn", calm.toasts(10, 60, 100, 1), 30);
    Check.due("none falls", calm.toasts(10, 60, 100, 0), 0);
    ChairCane low = Check.with("hall;strand 9;chair 9 0;sitter 0 1", "sit minute-58", "sit minute-59", "sit minute-60");
    Check.due("60 minutes", low.toasts(10, 60, 0, 0), 10);
    low.force(1);
    Check.due("the 60th", low.toasts(10, 60, 0, 0), 0);
    low.minute();
    Check.due("the 60th, which is 60", low.toasts(10, 60, 0, 0), 10);
    low.force(2);
    Check.due("not the 61st", low.toasts(10, 60, 0, 0), 0);
    Check.due("nobody there", Check.anew(Check.BARE).toasts(10, 60, 100, 0), 0);
    Check.due("nobody there sits", Check.anew(Check.BARE).toasts(10, 60, 100, 1), 0);
    Check.sentence("NONE without these, or a HALL.");
    for (int m : new int[] {0, -1, 11, Integer.MIN_VALUE, Integer.MAX_VALUE}) Check.unchanged("toasts " + m + " times", Check.BUSY, y -> y.toasts(m, 1, 1, 0), -1);
    for (int n : new int[] {0, -1, 61, Integer.MIN_VALUE, Integer.MAX_VALUE}) Check.unchanged("toasts for " + n, Check.BUSY, y -> y.toasts(1, n, 1, 0), -1);
    for (int p : new int[] {-1, 101, Integer.MIN_VALUE, Integer.MAX_VALUE}) Check.unchanged("toasts by " + p, Check.BUSY, y -> y.toasts(1, 1, p, 0), -1);
    for (int what : NO_ZERO_OR_ONE) Check.unchanged("toasts what " + what, Check.BUSY, y -> y.toasts(1, 1, 1, what), -1);
    for (int what = 0; what < 2; what++) {
      int w = what;
      Check.unchanged("toasts without a hall", Check.NO_HALL, y -> y.toasts(1, 1, 1, w), -1);
    }
  }

  private static void toastsByHand() {
    Check.promise(32);
    Check.sentence("TOASTS m times (1 to 10) n MINUTES (1 to 60) from now on: ahead of each a DRAW mod 100; is it below p (0 to 100), "
        + "and are there SITTERS, a DRAW mod how many: that one RISES, if they SIT, SITS down, if they STAND (it SETTLES then): "
        + "how many are DROPPED at the end; how many SIT then, all together (x as it was).");
    // draws from 1: 16838, 5758, 10113, 17515, 31051, 5627: mod 100 38, 58, 13, 15, 51, 27; mod 3 2, 1, 0, 1, 1, 2
    ChairCane x = Check.with(Check.CALM);
    x.seed(1);
    Check.due("38, and 1 sits down", x.toasts(1, 1, 39, 1), 1);
    Check.due("13, and 1 rises", x.toasts(1, 2, 39, 1), 0);
    Check.due("51, and 2 sits down", x.toasts(1, 3, 52, 1), 1);
    Check.due("51 is not below 51", x.toasts(1, 3, 51, 1), 0);
    Check.due("the second time draws on, from the same hall", x.toasts(2, 1, 39, 1), 2);
    Check.due("38, 58, 13 with 15", x.toasts(3, 1, 38, 1), 1);
    Check.due("x as it was", x.count(11), 1);
    x.sit(1);
    Check.due("1 rises", x.toasts(1, 1, 39, 1), 0);
    Check.due("1 rises, and sits down", x.toasts(1, 2, 39, 1), 1);
    // a strand of 9 for three chairs of 9: 1 falls as it sits down, ahead of the minute, in which the rule would have it stand
    ChairCane low = Check.with("hall;strand 9;chair 9 0;chair 9 0;chair 9 0;sitter 0 1;sitter 1 1;sitter 2 1", "sit 0");
    low.seed(1);
    Check.due("it settles then", low.toasts(1, 1, 39, 0), 1);
    Check.due("who is dropped and drawn stays so; 2 falls too", low.toasts(1, 3, 100, 0), 2);
    Check.due("nobody sits", low.toasts(1, 3, 100, 1), 0);
    ChairCane one = Check.with("hall;strand 9;chair 10 0;sitter 0 1");
    Check.due("the only one sits down", one.toasts(1, 1, 100, 1), 1);
    Check.due("and rises", one.toasts(1, 2, 100, 1), 0);
    ChairCane rising = Check.with("hall;strand 8;chair 9 0;chair 60 0;chair 60 0;sitter 0 1;sitter 1 1;sitter 2 1", "sit 1");
    Check.seat(rising, 0, 1);
    rising.let(0, 17);
    rising.seed(1);
    Check.due("1 rises, and 0 falls, though the rule seats all", rising.toasts(1, 1, 39, 0), 1);
    Check.due("nobody falls else", rising.toasts(1, 1, 38, 0), 0);
  }

  // ---- counts and images ----

  private static void count() {
    Check.promise(33);
    Check.sentence("What 0: STRANDS, 1: CHAIRS, 2: SITTERS, 3: RULES, 4: the RULE IN FORCE (NONE), 5: MINUTE, 6: who SITS, as bits, "
        + "7: who is DROPPED, as bits, 8: how much all CHAIRS GIVE, together, 9: NOTES, 10: ACTS that can be UNDONE, 11: x, 12: bytes of the TAPE.");
    ChairCane x = Check.anew(Check.BUSY);
    int[] want = {4, 8, 8, 3, 0, 4, 55, 64, 6 + 6 + 3 + 49 + 49, 3, 20, 12345, 24};
    for (int what = 0; what < want.length; what++) Check.due("count(" + what + ")", x.count(what), want[what]);
    x.force(-1);
    Check.due("no rule in force", x.count(4), -1);
    int[] bare = {1, 1, 0, 0, -1, 0, 0, 0, 0, 0, 0, 0, 5};
    for (int what = 0; what < bare.length; what++) Check.due("count(" + what + ") of none", Check.anew(Check.BARE).count(what), bare[what]);
    int[] none = {0, 0, 0, 0, -1, 0, 0, 0, 0, 0, 0, 0, 5};
    for (int what = 0; what < none.length; what++) Check.due("count(" + what + ") without a hall", Check.anew(Check.NO_HALL).count(what), none[what]);
    Check.sentence("NONE for others.");
    for (int what : new int[] {-1, -2, 13, 14, Integer.MIN_VALUE, Integer.MAX_VALUE}) {
      Check.unchanged("count(" + what + ")", Check.BUSY, y -> y.count(what), -1);
      Check.due("count(" + what + ") without a hall", new ChairCane().count(what), -1);
    }
  }

  private static void image() {
    Check.promise(34);
    Check.sentence("IMAGES 0 to 3: all but the RULES and the TAPE, as it is (the RULE IN FORCE, what can be UNDONE, too); gone back to, it is as it was (these stay).");
    Check.sentence("An IMAGE is made: the MINUTE; NONE without it.");
    for (int k = 0; k < 4; k++) {
      int image = k;
      Check.due("image(" + k + ")", Check.anew(Check.BUSY).image(k), 4);
      Check.due("image(" + k + ") without a hall", new ChairCane().image(k), 0);
      // whatever is done behind it, but for rules and the tape, is undone by going back; images are of no sight here
      Consumer<ChairCane> made = x -> {
        Check.BUSY.accept(x);
        for (int other = 0; other < 4; other++) x.image(other);
      };
      Check.unchanged("image and back", made, x -> x.image(image) + x.back(image));
      Check.unchanged("image, much, and back", made, x -> much(x) + x.back(image));
      Check.unchanged("image, another hall, and back", made, x -> anotherHall(x) + x.back(image));
    }
    for (int k : new int[] {-1, 4, 5, Integer.MIN_VALUE, Integer.MAX_VALUE}) Check.unchanged("image(" + k + ")", Check.BUSY, y -> y.image(k), -1);
  }

  private static int much(ChairCane x) {
    x.force(1);
    x.seed(0);
    x.note(1, 1, 1);
    x.help(6);
    x.sit(7);
    x.rise(0);
    x.let(0, 0);
    x.let(1, 1);
    x.let(2, 2);
    x.let(3, 4);
    for (int k = 0; k < 12; k++) x.minute();
    return x.undo() + x.note(-1, 0, 0) + x.note(3, 3, 1);
  }

  /** Another hall, and on the tape what was there. */
  private static int anotherHall(ChairCane x) {
    Check.hall(x, Check.CALM);
    x.sit(0);
    x.minute();
    Check.tell(x, "hall;strand 77;chair 7 0");
    return x.count(12);
  }

  private static void back() {
    Check.promise(35);
    Check.sentence("All is as in an IMAGE: the MINUTE;");
    ChairCane x = Check.anew(Check.BUSY);
    Check.due("back(0)", x.back(0), 0);
    int[] want = {4, 8, 8, 3, -1, 0, 1, 0, 12, 0, 1, 7, 24};
    for (int what = 0; what < want.length; what++) Check.due("count(" + what + ")", x.count(what), want[what]);
    Check.due("cane", x.strand(1), 50);
    Check.due("back(2)", x.back(2), 0);
    int[] then = {4, 8, 8, 3, 0, 0, 55, 64, 6 + 6 + 49 + 49, 2, 16, 7, 24};
    for (int what = 0; what < then.length; what++) Check.due("count(" + what + ")", x.count(what), then[what]);
    Check.due("undo from there", x.undo(), 15);
    Check.due("nobody is dropped", x.count(7), 0);
    Check.due("made anew over it", x.image(0), 0);
    Check.due("back", x.back(0), 0);
    Check.due("acts", x.count(10), 15);
    Check.due("the other as it was", x.back(2) + x.count(10), 16);
    Check.rule(x, "sit 0");
    Check.tell(x, "sit");
    x.back(0);
    Check.due("rules stay", x.count(3), 4);
    Check.due("the tape stays", x.count(12), 3);
    ChairCane empty = new ChairCane();
    Check.due("image without a hall", empty.image(3), 0);
    Check.hall(empty, Check.CALM);
    empty.minute();
    Check.due("back to no hall", empty.back(3), 0);
    Check.due("no hall", empty.minute(), -1);
    Check.due("no sitters", empty.count(2), 0);
    Check.sentence("NONE, and nothing happens, if it was never made, or without it.");
    for (int k : new int[] {1, 3, -1, 4, 5, Integer.MIN_VALUE, Integer.MAX_VALUE}) Check.unchanged("back(" + k + ")", Check.BUSY, y -> y.back(k), -1);
    for (int k = -1; k <= 4; k++) {
      int image = k;
      Check.unchanged("back(" + k + ") of none", Check.NO_HALL, y -> y.back(image), -1);
    }
  }
}
