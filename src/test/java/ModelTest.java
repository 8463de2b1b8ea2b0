import java.util.Random;

/** Drawn runs of calls on ChairCane and on SlowCane: each answer must be the same. */
public final class ModelTest {
  private static final String[] NAMES = {"sitter", "chair", "weight", "height", "cane", "sits", "give", "others", "press",
    "dropped", "minute"};
  private final Random draws;
  private ChairCane cane = new ChairCane();
  private SlowCane slow = new SlowCane();
  private final StringBuilder told = new StringBuilder();
  private int wrong = 0;
  private int calls = 0;

  private ModelTest(long seed) {
    draws = new Random(seed);
  }

  public static void main(String[] args) {
    int runs = args.length > 0 ? Integer.parseInt(args[0]) : 2500;
    long from = args.length > 1 ? Long.parseLong(args[1]) : 1;
    int good = 0;
    int bad = 0;
    long calls = 0;
    for (long seed = from; seed < from + runs; seed++) {
      ModelTest test = new ModelTest(seed);
      test.play();
      calls += test.calls;
      if (test.wrong == 0) {
        good++;
      } else {
        bad++;
      }
      if (bad > 3) break;
    }
    System.out.println("ModelTest: " + calls + " calls");
    System.out.println("ModelTest: " + good + " passed, " + bad + " failed");
    if (bad != 0) System.exit(1);
  }

  private int draw(int n) {
    return draws.nextInt(n);
  }

  private void due(String call, int got, int want) {
    calls++;
    told.append(call).append(" -> ").append(want).append('\n');
    if (got != want && wrong == 0) {
      wrong++;
      System.out.println(told + "ChairCane answered " + got + "\n");
    }
  }

  private void play() {
    int steps = 20 + draw(300);
    if (draw(10) != 0) tell(hallText(), true);
    for (int k = draw(4); k > 0; k--) tell(ruleText(), false);
    if (draw(6) != 0) force(cane.count(3) - 1);
    for (int k = 0; k < steps && calls < 500 && wrong == 0; k++) {
      int kind = draw(100);
      if (kind < 2) tell(hallText(), true);
      else if (kind < 5) tell(ruleText(), false);
      else if (kind < 6) tell(spoiled(draw(2) == 0 ? hallText() : ruleText()), draw(2) == 0);
      else if (kind < 50) act();
      else if (kind < 95) ask();
      else other();
    }
    for (int what = -1; what <= 13; what++) due("count(" + what + ")", cane.count(what), slow.count(what));
  }

  // ---- texts ----

  private void tell(String text, boolean hall) {
    String cut = text.length() > 400 ? text.substring(0, 400) : text;
    due("end(0)", cane.end(0), slow.end(0));
    for (int at = 0; at < cut.length(); at += 20) {
      int[] n = new int[5];
      for (int k = 0; k < 20; k++) {
        int b = at + k < cut.length() ? cut.charAt(at + k) & 255 : 0;
        n[k / 4] = n[k / 4] << 8 | b;
      }
      due("feed", cane.feed(n[0], n[1], n[2], n[3], n[4]), slow.feed(n));
    }
    due("end(" + cut.length() + ") of " + cut, cane.end(cut.length()), slow.end(cut.length()));
    if (hall) due("hall()", cane.hall(), slow.hall());
    else due("rule()", cane.rule(), slow.rule());
  }

  private String blanks() {
    return draw(8) == 0 ? "  ".substring(draw(2)) : "";
  }

  private String hallText() {
    StringBuilder b = new StringBuilder(blanks()).append("hall");
    int strands = draw(4) + (draw(10) == 0 ? 0 : 1);
    int chairs = strands == 0 ? 0 : draw(6) == 0 ? draw(9) : 3 + draw(6);
    int low = draw(3) == 0 ? 1 : 10;
    for (int k = 0; k < strands; k++) b.append(";strand ").append(draw(5) == 0 ? draw(100) : draw(40)).append(blanks());
    for (int k = 0; k < chairs; k++) {
      b.append(blanks()).append(";chair ").append(low + draw(61 - low) / (1 + draw(3))).append(' ').append(draw(strands));
    }
    int[] order = new int[chairs];
    for (int k = 0; k < chairs; k++) order[k] = k;
    for (int k = chairs - 1; k > 0; k--) {
      int o = draw(k + 1);
      int t = order[k];
      order[k] = order[o];
      order[o] = t;
    }
    int sitters = draw(4) == 0 ? draw(chairs + 1) : chairs;
    for (int k = 0; k < sitters; k++) {
      b.append(blanks()).append(";sitter ").append(order[k]).append(' ').append(1 + draw(20)).append(blanks());
    }
    return draw(12) == 0 ? spoiled(b.toString()) : b.toString();
  }

  private String ruleText() {
    StringBuilder b = new StringBuilder();
    int clauses = draw(20) == 0 ? 1 + draw(13) : 1 + draw(3);
    for (int k = 0; k < clauses; k++) {
      if (k > 0) b.append(blanks()).append(';');
      b.append(blanks()).append("sit ").append(sum());
      if (draw(3) != 0) b.append(" if").append(' ').append(test(draw(20) == 0 ? 11 : 2));
    }
    return draw(12) == 0 ? spoiled(b.toString()) : b.toString();
  }

  private String value() {
    if (draw(3) == 0) return String.valueOf(draw(6) == 0 ? draw(100000) : draw(21));
    return NAMES[draw(NAMES.length)];
  }

  private String sum() {
    StringBuilder b = new StringBuilder(value());
    int more = draw(25) == 0 ? draw(40) : draw(4);
    for (int k = 0; k < more; k++) b.append(blanks()).append("+--*/%".charAt(draw(6))).append(blanks()).append(value());
    return b.toString();
  }

  private String test(int deep) {
    StringBuilder b = new StringBuilder(fact(deep));
    int more = draw(3);
    for (int k = 0; k < more; k++) b.append(draw(2) == 0 ? " or " : " and ").append(fact(deep));
    return b.toString();
  }

  private String fact(int deep) {
    int kind = deep <= 0 ? 2 : draw(deep > 5 ? 2 : 5);
    if (kind == 0) return (deep > 5 ? "[" + fact(deep - 1) : "[" + test(deep - 1)) + blanks() + "]";
    if (kind == 1) return "not " + fact(deep - 1);
    String[] signs = {"<", "<=", "=", ">=", ">"};
    return sum() + blanks() + signs[draw(5)] + blanks() + sum();
  }

  private String spoiled(String text) {
    StringBuilder b = new StringBuilder(text);
    for (int k = draw(2); k >= 0; k--) {
      int at = draw(b.length() + 1);
      String[] bits = {"x", " ", "0", "9", ";", "[", "]", "=", "<", "not ", "if ", "sit ", "hall", "100000", "\u00e9", "strand 1", "chair 1 0;",
        "sitter 0 1", "A", "-", "%", ";sit 1", "and", " or "};
      if (draw(3) == 0 && at < b.length()) b.delete(at, Math.min(b.length(), at + 1 + draw(6)));
      else b.insert(at, bits[draw(bits.length)]);
    }
    return b.toString();
  }

  // ---- calls ----

  private int who() {
    return draw(25) == 0 ? draw(12) - 2 : draw(Math.max(1, cane.count(2)));
  }

  private int what(int most) {
    return draw(25) == 0 ? draw(most + 4) - 2 : draw(most + 1);
  }

  private void force(int r) {
    due("force(" + r + ")", cane.force(r), slow.force(r));
  }

  private void act() {
    int s = who();
    switch (draw(12)) {
      case 0: case 1: case 2:
        due("minute()", cane.minute(), slow.minute());
        break;
      case 3: case 4: case 5: case 6:
        due("sit(" + s + ")", cane.sit(s), slow.sit(s));
        break;
      case 7:
        due("rise(" + s + ")", cane.rise(s), slow.rise(s));
        break;
      case 8: case 9:
        due("help(" + s + ")", cane.help(s), slow.help(s));
        break;
      case 10: {
        int c = draw(30) == 0 ? draw(120) - 10 : draw(60);
        int k = draw(20) == 0 ? draw(7) - 1 : draw(Math.max(1, cane.count(0)));
        due("let(" + k + ", " + c + ")", cane.let(k, c), slow.let(k, c));
        break;
      }
      default:
        if (draw(3) == 0) due("undo()", cane.undo(), slow.undo());
        else force(draw(8) - 1);
    }
  }

  private void ask() {
    int s = who();
    int w = what(1);
    switch (draw(21)) {
      case 0:
        due("strand(" + s + ")", cane.strand(s), slow.strand(s));
        break;
      case 1: {
        int q = what(3);
        due("chair(" + s + ", " + q + ")", cane.chair(s, q), slow.chair(s, q));
        break;
      }
      case 2: {
        int q = what(2);
        due("sitter(" + s + ", " + q + ")", cane.sitter(s, q), slow.sitter(s, q));
        break;
      }
      case 3: {
        int q = what(2);
        int n = draw(10) == 0 ? draw(104) - 1 : draw(20);
        due("ahead(" + s + ", " + n + ", " + q + ")", cane.ahead(s, n, q), slow.ahead(s, n, q));
        break;
      }
      case 4:
        due("falls(" + w + ")", cane.falls(w), slow.falls(w));
        break;
      case 5:
        due("felled(" + s + ")", cane.felled(s), slow.felled(s));
        break;
      case 6:
        due("tall(" + w + ")", cane.tall(w), slow.tall(w));
        break;
      case 7:
        due("ease(" + w + ")", cane.ease(w), slow.ease(w));
        break;
      case 8: case 9: {
        int q = what(7);
        due("way(" + q + ")", cane.way(q), slow.way(q));
        break;
      }
      case 10:
        due("most(" + s + ")", cane.most(s), slow.most(s));
        break;
      case 11: case 12:
        due("heavy(" + s + ", " + w + ")", cane.heavy(s, w), slow.heavy(s, w));
        break;
      case 13:
        due("strung(" + s + ")", cane.strung(s), slow.strung(s));
        break;
      case 14: case 15: {
        int o = who();
        int n = draw(15) == 0 ? draw(25) - 2 : 1 + draw(20);
        int q = what(2);
        due("rests(" + s + ", " + o + ", " + n + ", " + q + ")", cane.rests(s, o, n, q), slow.rests(s, o, n, q));
        break;
      }
      case 16:
        due("ring(" + w + ")", cane.ring(w), slow.ring(w));
        break;
      case 17: {
        int much = draw(20) == 0 ? draw(10020) - 10 : draw(200);
        due("pence(" + much + ", " + s + ")", cane.pence(much, s), slow.pence(much, s));
        break;
      }
      case 18:
        due("ruled(" + w + ")", cane.ruled(w), slow.ruled(w));
        break;
      case 19: {
        int n = draw(15) == 0 ? draw(65) - 2 : draw(20);
        due("look(" + n + ", " + w + ")", cane.look(n, w), slow.look(n, w));
        break;
      }
      default: {
        int m = draw(20) == 0 ? draw(14) - 1 : 1 + draw(4);
        int n = draw(20) == 0 ? draw(64) - 1 : 1 + draw(10);
        int p = draw(20) == 0 ? draw(105) - 2 : draw(101);
        due("toasts(" + m + ", " + n + ", " + p + ", " + w + ")", cane.toasts(m, n, p, w), slow.toasts(m, n, p, w));
      }
    }
  }

  private void other() {
    int k = draw(10) == 0 ? draw(6) - 1 : draw(4);
    switch (draw(5)) {
      case 0:
        due("image(" + k + ")", cane.image(k), slow.image(k));
        break;
      case 1:
        due("back(" + k + ")", cane.back(k), slow.back(k));
        break;
      case 2: {
        int x = draw(8) == 0 ? draws.nextInt() : draw(100);
        due("seed(" + x + ")", cane.seed(x), slow.seed(x));
        break;
      }
      default: {
        int n = draw(6) == 0 ? draw(66) - 2 : draw(6);
        int s = who();
        int state = draw(20) == 0 ? draw(5) - 1 : draw(10) == 0 ? draw(3) : Math.max(0, cane.sitter(s, 2));
        due("note(" + n + ", " + s + ", " + state + ")", cane.note(n, s, state), slow.note(n, s, state));
      }
    }
  }
}
