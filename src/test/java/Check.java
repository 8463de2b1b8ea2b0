import java.nio.charset.StandardCharsets;
import java.nio.file.Files;
import java.nio.file.Path;
import java.util.HashMap;
import java.util.Map;
import java.util.function.Consumer;
import java.util.function.ToIntFunction;

/** What the tests of the document's sentences share: quoting, answers that are due, calls that change nothing. */
final class Check {
  /** Three on a strand that lets nothing through, so that nobody ever falls. */
  static final String CALM = "hall;strand 0;chair 5 0;chair 5 0;chair 5 0;sitter 0 1;sitter 1 2;sitter 2 3";
  /** As many strands, chairs and sitters as can be told. */
  static final String FULL = "hall;strand 40;strand 50;strand 0;strand 12;chair 30 0;chair 35 0;chair 60 1;chair 60 1;"
      + "chair 1 2;chair 5 2;chair 12 3;chair 13 3;sitter 7 5;sitter 6 5;sitter 5 20;sitter 4 1;sitter 3 10;sitter 2 10;"
      + "sitter 1 6;sitter 0 4";

  private static final int KINDS_OF_SIGHT = 7;

  private static int good = 0;
  private static int bad = 0;
  private static String quoted = "";
  private static final int TERMS = 0;
  private static String[] sections = {};
  private static boolean[][] covered = {};
  private static int promise = 1;
  private static final Map<Consumer<ChairCane>, String[]> SEEN = new HashMap<>();

  private Check() {}

  // ---- sentences ----

  /** Reads what the document promises, without headings, fences and the heads of calls: the terms, then each promise. */
  static void read(String path) throws Exception {
    String text = Files.readString(Path.of(path), StandardCharsets.ISO_8859_1);
    text = text.substring(text.indexOf("## Terms"), text.indexOf("## Not promised"));
    text = text.replaceAll("```(text)?", " ").replaceAll("==== I+\\.", " ");
    text = text.replaceAll("(?m)^`(int \\w+|ChairCane)\\([^)]*\\)`:", " ");
    String[] parts = text.split("(?m)^## .*$");
    // ahead of the first heading there is nothing
    sections = new String[parts.length - 1];
    covered = new boolean[parts.length - 1][];
    for (int k = 0; k < sections.length; k++) {
      sections[k] = parts[k + 1].replaceAll("\\s+", " ").trim();
      covered[k] = new boolean[sections[k].length()];
    }
    quoted = "the document has 35 promises";
    due("promises", sections.length - 1, 35);
  }

  /** Sentences that the terms do not have are looked for in this promise from here on. */
  static void promise(int number) {
    promise = number;
  }

  /** What is due from here on is due by this sentence. */
  static void sentence(String quote) {
    quoted = quote;
    int section = sections[TERMS].contains(quote) ? TERMS : promise;
    int at = sections[section].indexOf(quote);
    if (at < 0) fail("neither the terms nor promise " + promise + " have this sentence");
    for (; at >= 0; at = sections[section].indexOf(quote, at + 1)) {
      for (int k = 0; k < quote.length(); k++) covered[section][at + k] = true;
    }
  }

  /** Fails for every stretch of the document that no test has quoted. */
  static void allQuoted() {
    for (int section = 0; section < sections.length; section++) {
      quoted = section == TERMS ? "terms" : "promise " + section;
      StringBuilder missing = new StringBuilder();
      for (int k = 0; k < covered[section].length; k++) {
        if (!covered[section][k]) missing.append(sections[section].charAt(k));
      }
      if (missing.toString().isBlank()) good++;
      else fail("without a test: " + missing);
    }
  }

  static boolean end(String name) {
    System.out.println(name + ": " + good + " passed, " + bad + " failed");
    return bad == 0;
  }

  // ---- what is due ----

  private static void fail(String what) {
    bad++;
    System.out.println("'" + quoted + "': " + what);
  }

  static void due(String call, int got, int want) {
    if (got == want) good++;
    else fail(call + " answered " + got + ", due is " + want);
  }

  /** The call answers this, and nothing has changed behind it. */
  static void unchanged(String name, Consumer<ChairCane> made, ToIntFunction<ChairCane> call, int want) {
    due(name, call.applyAsInt(anew(made)), want);
    unchanged(name, made, call);
  }

  /** Whatever the call answers, nothing has changed behind it. */
  static void unchanged(String name, Consumer<ChairCane> made, ToIntFunction<ChairCane> call) {
    String[] before = SEEN.computeIfAbsent(made, m -> sights(m, x -> 0));
    String[] behind = sights(made, call);
    for (int kind = 0; kind < KINDS_OF_SIGHT; kind++) {
      if (before[kind].equals(behind[kind])) good++;
      else fail(name + " changed\n  " + before[kind] + "\n  " + behind[kind]);
    }
  }

  static ChairCane anew(Consumer<ChairCane> made) {
    ChairCane x = new ChairCane();
    made.accept(x);
    return x;
  }

  // ---- all that can be seen of an object ----

  /** Each kind of sight has an object of its own, since some change it, and so that none is called too often. */
  private static String[] sights(Consumer<ChairCane> made, ToIntFunction<ChairCane> call) {
    String[] all = new String[KINDS_OF_SIGHT];
    for (int kind = 0; kind < KINDS_OF_SIGHT; kind++) {
      ChairCane x = anew(made);
      call.applyAsInt(x);
      StringBuilder sight = new StringBuilder("sight ").append(kind).append(':');
      look(x, kind, sight);
      all[kind] = sight.toString();
    }
    return all;
  }

  private static void look(ChairCane x, int kind, StringBuilder sight) {
    switch (kind) {
      case 0: being(x, sight); break;
      case 1: asking(x, sight); break;
      case 2: undoing(x, sight); break;
      case 3: goingBack(x, sight); break;
      case 4: ruling(x, sight); break;
      case 5:
        add(sight, x.count(12), x.hall());
        being(x, sight);
        break;
      default:
        add(sight, x.rule(), x.count(12), x.count(3));
        x.force(x.count(3) - 1);
        for (int k = 0; k < 8; k++) add(sight, x.ahead(k, 1, 0));
    }
  }

  private static void add(StringBuilder sight, int... numbers) {
    for (int n : numbers) sight.append(' ').append(n);
  }

  private static void being(ChairCane x, StringBuilder sight) {
    for (int k = -1; k <= 13; k++) add(sight, x.count(k));
    for (int k = 0; k < 4; k++) add(sight, x.strand(k));
    for (int k = 0; k < 8; k++) {
      for (int what = 0; what < 4; what++) add(sight, x.chair(k, what), x.sitter(k, what));
    }
  }

  private static void asking(ChairCane x, StringBuilder sight) {
    for (int k = 0; k < 8; k++) {
      add(sight, x.ahead(k, 1, 0), x.ahead(k, 1, 1), x.ahead(k, 4, 0), x.ahead(k, 4, 1), x.felled(k), x.way(k), x.most(k));
      add(sight, x.heavy(k, 0), x.heavy(k, 1), x.strung(k), x.pence(101, k), x.rests(k, (k + 1) % 8, 3, 0));
    }
    for (int what = 0; what < 2; what++) {
      add(sight, x.falls(what), x.tall(what), x.ease(what), x.ring(what), x.ruled(what), x.look(5, what), x.toasts(2, 5, 60, what));
    }
  }

  private static void undoing(ChairCane x, StringBuilder sight) {
    for (int k = 0; k < 22; k++) {
      add(sight, x.undo());
      for (int what = 4; what < 9; what++) add(sight, x.count(what));
      for (int strand = 0; strand < 4; strand++) add(sight, x.strand(strand));
    }
  }

  private static void goingBack(ChairCane x, StringBuilder sight) {
    for (int k = 0; k < 4; k++) {
      add(sight, x.back(k), x.ruled(0), x.strung(0));
      for (int what = 0; what < 13; what++) add(sight, x.count(what));
      for (int strand = 0; strand < 4; strand++) add(sight, x.strand(strand));
      for (int sitter = 0; sitter < 8; sitter++) add(sight, x.sitter(sitter, 1));
      add(sight, x.undo(), x.count(6));
    }
  }

  private static void ruling(ChairCane x, StringBuilder sight) {
    for (int rule = -1; rule < 6; rule++) {
      add(sight, x.force(rule));
      for (int k = 0; k < 8; k++) add(sight, x.ahead(k, 1, 0), x.ahead(k, 2, 0), x.ahead(k, 7, 0));
    }
  }

  // ---- texts ----

  static void tell(ChairCane x, String text) {
    x.end(0);
    for (int at = 0; at < text.length(); at += 20) {
      int[] n = new int[5];
      for (int k = 0; k < 20; k++) {
        n[k / 4] = n[k / 4] << 8 | (at + k < text.length() ? text.charAt(at + k) & 255 : 0);
      }
      x.feed(n[0], n[1], n[2], n[3], n[4]);
    }
    x.end(text.length());
  }

  static int hall(ChairCane x, String text) {
    tell(x, text);
    return x.hall();
  }

  static int rule(ChairCane x, String text) {
    tell(x, text);
    return x.rule();
  }

  /** An object with this hall, and these rules, of which the first is in force. */
  static ChairCane with(String hall, String... rules) {
    ChairCane x = new ChairCane();
    if (hall(x, hall) < 0) fail("the test's own hall: " + hall);
    for (String text : rules) {
      if (rule(x, text) < 0) fail("the test's own rule: " + text);
    }
    if (rules.length > 0) x.force(0);
    return x;
  }

  static void seat(ChairCane x, int... sitters) {
    for (int k : sitters) {
      if (x.sit(k) != 0) fail("the test's own sitter " + k + " falls");
    }
  }

  /** Who sits behind one minute by this rule, of those of CALM, if these sit ahead of it. */
  static int seated(String text, int... sitting) {
    ChairCane x = with(CALM, text);
    seat(x, sitting);
    x.minute();
    return x.count(6);
  }

  static void holds(String test, boolean want) {
    due("test " + test, seated("sit 1 if " + test), want ? 7 : 0);
  }

  // ---- faults ----

  static int fault(int place, int kind) {
    return -2 - (1 + 8 * place + kind);
  }

  static void hallTaken(String text, int sitters) {
    due("hall of '" + text + "'", hall(new ChairCane(), text), sitters);
  }

  static void hallFault(String text, int place, int kind) {
    due("hall of '" + text + "'", hall(new ChairCane(), text), fault(place, kind));
  }

  static void ruleTaken(String text) {
    due("rule of '" + text + "'", rule(new ChairCane(), text), 0);
  }

  static void ruleFault(String text, int place, int kind) {
    due("rule of '" + text + "'", rule(new ChairCane(), text), fault(place, kind));
  }

  // ---- objects in which much stands ----

  /** 0, 1, 2, 4, 5 sit, 3 and 7 stand, 6 is dropped; all but two of the images are made, and three rules told. */
  static final Consumer<ChairCane> BUSY = x -> {
    hall(x, FULL);
    rule(x, "sit 0 if sitter=3 or sitter=7;sit 1");
    rule(x, "sit 1");
    rule(x, "sit minute%2 if sitter<4;sit 1-sits");
    x.seed(7);
    x.sit(0);
    x.image(0);
    x.sit(1);
    x.sit(2);
    x.force(0);
    x.sit(4);
    x.sit(5);
    for (int k = 0; k < 9; k++) x.let(1, 60 + k);
    x.let(1, 99);
    x.sit(6);
    x.note(2, 6, 2);
    x.note(0, 1, 0);
    x.image(2);
    for (int k = 0; k < 4; k++) x.minute();
    x.let(2, 3);
    x.seed(12345);
    x.note(60, 3, 0);
    tell(x, "hall;strand 77;chair 7 0");
  };

  /** A hall with nobody in it, and a good rule on the tape. */
  static final Consumer<ChairCane> BARE = x -> {
    hall(x, "hall;strand 5;chair 9 0");
    tell(x, "sit 1");
  };

  /** No hall, but a good rule on the tape. */
  static final Consumer<ChairCane> NO_HALL = x -> tell(x, "sit 2");
}
