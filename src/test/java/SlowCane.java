import java.util.ArrayList;
import java.util.HashMap;
import java.util.List;
import java.util.Map;

/**
 * A second reading of the document, written apart from ChairCane and without care for speed:
 * trees in place of steps, sums taken anew each time, rows and sets tried one by one.
 */
final class SlowCane {
  /** A fault of a text. */
  static final class Fault extends RuntimeException {
    final int number;

    Fault(int place, int kind) {
      this.number = 1 + 8 * place + kind;
    }
  }

  interface Sum {
    long of(Hall h, int s);
  }

  interface Test {
    boolean of(Hall h, int s);
  }

  static final class Clause {
    Sum sum;
    Test test;
  }

  static final class Hall {
    boolean told = false;
    List<Integer> toldCane = new ArrayList<>();
    List<Integer> cane = new ArrayList<>();
    List<Integer> heights = new ArrayList<>();
    List<Integer> strands = new ArrayList<>();
    List<Integer> chairs = new ArrayList<>();
    List<Integer> weights = new ArrayList<>();
    List<Integer> states = new ArrayList<>();
    int minute = 0;

    Hall copy() {
      Hall h = new Hall();
      h.told = told;
      h.toldCane.addAll(toldCane);
      h.cane.addAll(cane);
      h.heights.addAll(heights);
      h.strands.addAll(strands);
      h.chairs.addAll(chairs);
      h.weights.addAll(weights);
      h.states.addAll(states);
      h.minute = minute;
      return h;
    }

    Hall begin() {
      Hall h = copy();
      h.cane = new ArrayList<>(toldCane);
      for (int s = 0; s < h.states.size(); s++) h.states.set(s, 0);
      h.minute = 0;
      return h;
    }

    int strandOf(int s) {
      return strands.get(chairs.get(s));
    }

    int give(int s) {
      if (states.get(s) != 1) return 0;
      int all = 0;
      for (int o = 0; o < states.size(); o++) {
        if (states.get(o) == 1 && strandOf(o) == strandOf(s)) all += weights.get(o);
      }
      return (int) Math.floor((double) (cane.get(strandOf(s)) * weights.get(s)) / all);
    }

    int settle() {
      List<Integer> falling = new ArrayList<>();
      for (int s = 0; s < states.size(); s++) {
        if (states.get(s) == 1 && give(s) >= heights.get(chairs.get(s))) falling.add(s);
      }
      if (falling.isEmpty()) return 0;
      int bits = 0;
      for (int s : falling) {
        states.set(s, 2);
        bits |= 1 << s;
      }
      return bits | settle();
    }

    int pass(List<Clause> rule, Map<Integer, Integer> held) {
      for (int s = 0; s < states.size(); s++) {
        if (states.get(s) == 2) continue;
        if (held.containsKey(s)) {
          states.set(s, held.get(s));
        } else if (rule != null) {
          long sum = 0;
          for (Clause c : rule) {
            if (c.test == null || c.test.of(this, s)) {
              sum = c.sum.of(this, s);
              break;
            }
          }
          states.set(s, sum > 0 ? 1 : 0);
        }
      }
      int fell = settle();
      minute++;
      return fell;
    }

    int pass(List<Clause> rule) {
      return pass(rule, Map.of());
    }

    int bits(int state) {
      int b = 0;
      for (int s = 0; s < states.size(); s++) if (states.get(s) == state) b |= 1 << s;
      return b;
    }

    int many(int state) {
      return Integer.bitCount(bits(state));
    }
  }

  /** Everything that an image holds. */
  static final class Whole {
    Hall hall = new Hall();
    List<Hall> past = new ArrayList<>();
    List<int[]> notes = new ArrayList<>();
    int inForce = -1;
    long x = 0;

    Whole copy() {
      Whole w = new Whole();
      w.hall = hall.copy();
      for (Hall h : past) w.past.add(h.copy());
      w.notes.addAll(notes);
      w.inForce = inForce;
      w.x = x;
      return w;
    }
  }

  /** Reads a text, sign by sign. */
  static final class Reader {
    final int[] text;
    int at = 0;
    int counted = 0;

    Reader(List<Integer> tape) {
      text = tape.stream().mapToInt(i -> i).toArray();
    }

    int here() {
      while (at < text.length && text[at] == ' ') at++;
      return at < text.length ? text[at] : -1;
    }

    String word() {
      here();
      StringBuilder b = new StringBuilder();
      for (int k = at; k < text.length && text[k] >= 'a' && text[k] <= 'z'; k++) b.append((char) text[k]);
      return b.toString();
    }

    void skipWord() {
      at += word().length();
    }

    boolean digit() {
      return here() >= '0' && here() <= '9';
    }

    int number(int least, int most) {
      if (!digit()) throw new Fault(at, 0);
      int from = at;
      StringBuilder b = new StringBuilder();
      while (at < text.length && text[at] >= '0' && text[at] <= '9') b.append((char) text[at++]);
      if (b.length() > 5) throw new Fault(from, 1);
      int n = Integer.parseInt(b.toString());
      if (n < least || n > most) throw new Fault(from, 1);
      return n;
    }

    boolean more() {
      if (here() == -1) return false;
      if (here() != ';') throw new Fault(at, 0);
      at++;
      return true;
    }

    Hall hall() {
      Hall h = new Hall();
      int clause = 0;
      do {
        String w = word();
        int from = at;
        if (!List.of("hall", "strand", "chair", "sitter").contains(w)) throw new Fault(from, 0);
        if (clause == 40 || clause == 0 != w.equals("hall")) throw new Fault(from, 4);
        skipWord();
        if (w.equals("strand")) {
          if (h.cane.size() == 4) throw new Fault(from, 4);
          h.cane.add(number(0, 99));
        } else if (w.equals("chair")) {
          if (h.heights.size() == 8) throw new Fault(from, 4);
          h.heights.add(number(1, 60));
          h.strands.add(number(0, h.cane.size() - 1));
        } else if (w.equals("sitter")) {
          here();
          int place = at;
          int c = number(0, h.heights.size() - 1);
          if (h.chairs.contains(c)) throw new Fault(place, 1);
          h.chairs.add(c);
          h.weights.add(number(1, 20));
          h.states.add(0);
        }
        clause++;
      } while (more());
      h.toldCane.addAll(h.cane);
      h.told = true;
      return h;
    }

    List<Clause> rule() {
      List<Clause> all = new ArrayList<>();
      do {
        if (!word().equals("sit")) throw new Fault(at, 0);
        if (all.size() == 12) throw new Fault(at, 4);
        skipWord();
        Clause c = new Clause();
        c.sum = sum();
        if (word().equals("if")) {
          skipWord();
          c.test = test(0);
        }
        all.add(c);
      } while (more());
      return all;
    }

    Test test(int deep) {
      Test t = part(deep);
      while (word().equals("or")) {
        skipWord();
        Test l = t;
        Test r = part(deep);
        t = (h, s) -> l.of(h, s) || r.of(h, s);
      }
      return t;
    }

    Test part(int deep) {
      Test t = fact(deep);
      while (word().equals("and")) {
        skipWord();
        Test l = t;
        Test r = fact(deep);
        t = (h, s) -> l.of(h, s) && r.of(h, s);
      }
      return t;
    }

    Test fact(int deep) {
      if (here() == '[') {
        if (deep == 10) throw new Fault(at, 2);
        at++;
        Test t = test(deep + 1);
        if (here() != ']') throw new Fault(at, 0);
        at++;
        return t;
      }
      if (word().equals("not")) {
        if (deep == 10) throw new Fault(at, 2);
        skipWord();
        Test t = fact(deep + 1);
        return (h, s) -> !t.of(h, s);
      }
      Sum l = sum();
      int c = here();
      int from = at;
      if (c != '<' && c != '=' && c != '>') throw new Fault(from, 0);
      count(from);
      at++;
      boolean same = c == '=';
      if (!same && at < text.length && text[at] == '=') {
        same = true;
        at++;
      }
      boolean orSame = same;
      Sum r = sum();
      return (h, s) -> {
        int cmp = Long.compare(l.of(h, s), r.of(h, s));
        return cmp == 0 ? orSame : cmp < 0 ? c == '<' : c == '>';
      };
    }

    void count(int place) {
      if (counted == 60) throw new Fault(place, 3);
      counted++;
    }

    Sum sum() {
      Sum v = term();
      while (here() == '+' || here() == '-') {
        int op = text[at++];
        Sum l = v;
        Sum r = term();
        v = (h, s) -> op == '+' ? l.of(h, s) + r.of(h, s) : l.of(h, s) - r.of(h, s);
      }
      return v;
    }

    Sum term() {
      Sum v = value();
      while (here() == '*' || here() == '/' || here() == '%') {
        int op = text[at++];
        Sum l = v;
        Sum r = value();
        v = (h, s) -> {
          long a = l.of(h, s);
          long b = r.of(h, s);
          if (op == '*') return a * b;
          if (b == 0) return 0;
          return op == '/' ? a / b : a - a / b * b;
        };
      }
      return v;
    }

    Sum value() {
      if (digit()) {
        int from = at;
        int n = number(0, 99999);
        count(from);
        return (h, s) -> n;
      }
      String w = word();
      Sum v = named(w);
      if (v == null) throw new Fault(at, 0);
      count(at);
      skipWord();
      return v;
    }

    static Sum named(String w) {
      Map<String, Sum> m = new HashMap<>();
      m.put("sitter", (h, s) -> s);
      m.put("chair", (h, s) -> h.chairs.get(s));
      m.put("weight", (h, s) -> h.weights.get(s));
      m.put("height", (h, s) -> h.heights.get(h.chairs.get(s)));
      m.put("cane", (h, s) -> h.cane.get(h.strandOf(s)));
      m.put("sits", (h, s) -> h.states.get(s) == 1 ? 1 : 0);
      m.put("give", (h, s) -> h.give(s));
      m.put("others", (h, s) -> others(h, s, false));
      m.put("press", (h, s) -> others(h, s, true));
      m.put("dropped", (h, s) -> h.many(2));
      m.put("minute", (h, s) -> h.minute);
      return m.get(w);
    }

    static long others(Hall h, int s, boolean weighed) {
      long n = 0;
      for (int o = 0; o < h.states.size(); o++) {
        if (o != s && h.states.get(o) == 1 && h.strandOf(o) == h.strandOf(s)) n += weighed ? h.weights.get(o) : 1;
      }
      return n;
    }
  }

  List<Integer> tape = new ArrayList<>();
  final List<List<Clause>> rules = new ArrayList<>();
  Whole now = new Whole();
  final Map<Integer, Whole> images = new HashMap<>();

  int feed(int... numbers) {
    if (tape.size() > 380) return -1;
    for (int n : numbers) {
      for (int k = 3; k >= 0; k--) tape.add(n >>> 8 * k & 255);
    }
    return tape.size();
  }

  int end(int n) {
    if (n < 0 || n > tape.size()) return -1;
    tape = new ArrayList<>(tape.subList(0, n));
    return n;
  }

  int hall() {
    Reader r = new Reader(tape);
    tape = new ArrayList<>();
    try {
      now.hall = r.hall();
      now.past.clear();
      now.notes.clear();
      return now.hall.states.size();
    } catch (Fault f) {
      return -2 - f.number;
    }
  }

  int rule() {
    if (rules.size() == 6) return -1;
    Reader r = new Reader(tape);
    tape = new ArrayList<>();
    try {
      rules.add(r.rule());
      return rules.size() - 1;
    } catch (Fault f) {
      return -2 - f.number;
    }
  }

  int force(int r) {
    if (r < -1 || r >= rules.size()) return -2;
    int was = now.inForce;
    now.inForce = r;
    return was;
  }

  List<Clause> ruleOf(int r) {
    return r == -1 ? null : rules.get(r);
  }

  List<Clause> forced() {
    return ruleOf(now.inForce);
  }

  static <T> boolean in(int k, List<T> l) {
    return k >= 0 && k < l.size();
  }

  int strand(int k) {
    return in(k, now.hall.cane) ? now.hall.cane.get(k) : -1;
  }

  int chair(int k, int what) {
    Hall h = now.hall;
    if (!in(k, h.heights) || what < 0 || what > 3) return -2;
    int s = h.chairs.indexOf(k);
    if (what == 0) return h.heights.get(k);
    if (what == 1) return h.strands.get(k);
    if (what == 2) return s;
    return s < 0 ? 0 : h.give(s);
  }

  int sitter(int k, int what) {
    Hall h = now.hall;
    if (!in(k, h.states) || what < 0 || what > 2) return -1;
    return what == 0 ? h.chairs.get(k) : what == 1 ? h.weights.get(k) : h.states.get(k);
  }

  boolean is(int s, int state) {
    return in(s, now.hall.states) && now.hall.states.get(s) == state;
  }

  void act() {
    now.past.add(now.hall.copy());
    if (now.past.size() > 20) now.past.remove(0);
  }

  int minute() {
    if (!now.hall.told || now.hall.minute == 999) return -1;
    act();
    return now.hall.pass(forced());
  }

  int sit(int s) {
    if (!is(s, 0)) return -1;
    act();
    now.hall.states.set(s, 1);
    return now.hall.settle();
  }

  int rise(int s) {
    if (!is(s, 1)) return -1;
    act();
    now.hall.states.set(s, 0);
    return now.hall.settle();
  }

  int help(int s) {
    if (!is(s, 2)) return -1;
    act();
    now.hall.states.set(s, 0);
    return now.hall.many(2);
  }

  int let(int k, int c) {
    if (!in(k, now.hall.cane) || c < 0 || c > 99 || now.hall.cane.get(k) == c) return -1;
    act();
    now.hall.cane.set(k, c);
    return now.hall.settle();
  }

  int undo() {
    if (now.past.isEmpty()) return -2;
    now.hall = now.past.remove(now.past.size() - 1);
    return now.past.size();
  }

  Hall later(int n) {
    Hall h = now.hall.copy();
    for (int k = 0; k < n; k++) h.pass(forced());
    return h;
  }

  int ahead(int s, int n, int what) {
    if (!now.hall.told || n < 0 || n > 100 || what < 0 || what > 2) return -1;
    if (what == 2) return later(n).many(2);
    if (!in(s, now.hall.states)) return -1;
    return what == 0 ? later(n).states.get(s) : later(n).give(s);
  }

  int falls(int what) {
    if (!now.hall.told || what < 0 || what > 1) return -1;
    Hall h = now.hall.copy();
    for (int k = 0; k < 200; k++) {
      int fell = h.pass(forced());
      if (fell != 0) return what == 1 ? fell : now.hall.minute + k;
    }
    return -2;
  }

  int felled(int s) {
    if (!is(s, 1)) return -1;
    Hall h = now.hall.copy();
    h.states.set(s, 0);
    return h.settle();
  }

  int tall(int what) {
    if (!now.hall.told || what < 0 || what > 1) return -1;
    if (now.hall.many(1) == 0) return -2;
    for (int many = 8; many >= 0; many--) {
      for (int s = 0; s < 8; s++) {
        if (is(s, 1) && Integer.bitCount(felled(s)) == many) return what == 0 ? s : many;
      }
    }
    return -99;
  }

  int ease(int what) {
    if (!now.hall.told || what < 0 || what > 1) return -1;
    for (int many = 8; many >= 0; many--) {
      for (int set = 0; set < 256; set++) {
        if (Integer.bitCount(set) != many || (set & ~now.hall.bits(0)) != 0) continue;
        Hall h = now.hall.copy();
        for (int s = 0; s < 8; s++) if ((set >> s & 1) == 1) h.states.set(s, 1);
        if (h.settle() == 0) return what == 0 ? many : set;
      }
    }
    return -99;
  }

  List<Integer> row(Hall h) {
    if (h.many(1) == 0) return new ArrayList<>();
    for (int s = 0; s < h.states.size(); s++) {
      if (h.states.get(s) != 1) continue;
      Hall next = h.copy();
      next.states.set(s, 0);
      if (next.settle() != 0) continue;
      List<Integer> rest = row(next);
      if (rest != null) {
        rest.add(0, s);
        return rest;
      }
    }
    return null;
  }

  int way(int what) {
    if (!now.hall.told || what < 0 || what > 7) return -3;
    if (what >= now.hall.many(1)) return -1;
    List<Integer> row = row(now.hall);
    return row == null ? -2 : row.get(what);
  }

  int most(int k) {
    if (!in(k, now.hall.cane)) return -1;
    int best = -2;
    for (int c = 0; c <= 99; c++) {
      Hall h = now.hall.copy();
      h.cane.set(k, c);
      if (h.settle() == 0) best = c;
    }
    return best;
  }

  int heavy(int s, int what) {
    if (!is(s, 0) && !is(s, 1) || what < 0 || what > 1) return -1;
    List<Integer> good = new ArrayList<>();
    for (int w = 1; w <= 20; w++) {
      Hall h = now.hall.copy();
      h.weights.set(s, w);
      h.states.set(s, 1);
      if (h.settle() == 0) good.add(w);
    }
    return what == 0 ? good.size() : good.isEmpty() ? -2 : good.get(0);
  }

  boolean fits(Hall begin, List<Clause> rule) {
    for (int[] note : now.notes) {
      Hall h = begin.begin();
      for (int k = 0; k < note[0]; k++) h.pass(rule);
      if (h.states.get(note[1]) != note[2]) return false;
    }
    return true;
  }

  int strung(int c) {
    if (!in(c, now.hall.heights)) return -1;
    int bits = 0;
    for (int k = 0; k < now.hall.cane.size(); k++) {
      Hall h = now.hall.copy();
      h.strands.set(c, k);
      if (fits(h, forced())) bits |= 1 << k;
    }
    return bits;
  }

  int[] pays(int one, int other, int n, int a, int b) {
    Hall h = now.hall.copy();
    int[] pay = new int[2];
    int[] who = {one, other};
    for (int k = 0; k < n; k++) {
      h.pass(forced(), Map.of(one, a, other, b));
      for (int i = 0; i < 2; i++) {
        if (h.states.get(who[i]) == 1) pay[i]++;
        pay[i] += h.give(who[i]) / 10;
      }
    }
    for (int i = 0; i < 2; i++) if (h.states.get(who[i]) == 2) pay[i] -= 10;
    return pay;
  }

  int rests(int one, int other, int n, int what) {
    if (!is(one, 0) && !is(one, 1) || !is(other, 0) && !is(other, 1) || one == other) return -1;
    if (n < 1 || n > 20 || what < 0 || what > 2) return -1;
    List<int[]> good = new ArrayList<>();
    for (int a = 0; a < 2; a++) {
      for (int b = 0; b < 2; b++) {
        int[] here = pays(one, other, n, a, b);
        boolean more = pays(one, other, n, 1 - a, b)[0] > here[0] || pays(one, other, n, a, 1 - b)[1] > here[1];
        if (!more) good.add(new int[] {a, b});
      }
    }
    return what == 0 ? good.size() : good.isEmpty() ? -2 : good.get(0)[what - 1];
  }

  int ring(int what) {
    if (!now.hall.told || what < 0 || what > 1) return -1;
    List<List<Integer>> all = new ArrayList<>();
    Hall h = now.hall.copy();
    for (int k = 0; k <= 60; k++) {
      all.add(new ArrayList<>(h.states));
      h.pass(forced());
    }
    for (int i = 0; i < 60; i++) {
      for (int j = i + 1; j <= 60; j++) {
        if (all.get(i).equals(all.get(j))) return what == 0 ? now.hall.minute + i : j - i;
      }
    }
    return -2;
  }

  int pence(int much, int s) {
    if (much < 0 || much > 9999 || !in(s, now.hall.states)) return -1;
    int n = now.hall.states.size();
    int all = count(8);
    if (all == 0) return 0;
    int[] part = new int[n];
    int left = much;
    List<Integer> order = new ArrayList<>();
    for (int k = 0; k < n; k++) {
      part[k] = much * now.hall.give(k) / all;
      left -= part[k];
      order.add(k);
    }
    order.sort((a, b) -> much * now.hall.give(b) % all - much * now.hall.give(a) % all);
    for (int k = 0; k < left; k++) part[order.get(k)]++;
    return part[s];
  }

  int note(int n, int s, int state) {
    if (n == -1) {
      now.notes.clear();
      return 0;
    }
    if (n < 0 || n > 60 || !in(s, now.hall.states) || state < 0 || state > 2 || now.notes.size() == 10) return -2;
    now.notes.add(new int[] {n, s, state});
    return now.notes.size();
  }

  List<Integer> could() {
    List<Integer> l = new ArrayList<>();
    for (int r = -1; r < rules.size(); r++) if (fits(now.hall, ruleOf(r))) l.add(r);
    return l;
  }

  int ruled(int what) {
    if (!now.hall.told || what < 0 || what > 1) return -3;
    List<Integer> l = could();
    return what == 0 ? l.size() : l.isEmpty() ? -2 : l.get(0);
  }

  int look(int n, int what) {
    if (!now.hall.told || n < 0 || n > 60 || what < 0 || what > 1) return -1;
    List<Integer> l = could();
    if (l.isEmpty() || now.hall.states.isEmpty()) return -2;
    int who = -1;
    int fewest = 99;
    for (int s = 0; s < now.hall.states.size(); s++) {
      int[] many = new int[3];
      for (int r : l) {
        Hall h = now.hall.begin();
        for (int k = 0; k < n; k++) h.pass(ruleOf(r));
        many[h.states.get(s)]++;
      }
      int alike = Math.max(many[0], Math.max(many[1], many[2]));
      if (alike < fewest) {
        fewest = alike;
        who = s;
      }
    }
    return what == 0 ? who : fewest;
  }

  int seed(int x) {
    if (x < 0) return -1;
    int was = (int) now.x;
    now.x = x;
    return was;
  }

  int toasts(int m, int n, int p, int what) {
    if (!now.hall.told || m < 1 || m > 10 || n < 1 || n > 60 || p < 0 || p > 100 || what < 0 || what > 1) return -1;
    long x = now.x;
    int sum = 0;
    for (int time = 0; time < m; time++) {
      Hall h = now.hall.copy();
      for (int k = 0; k < n; k++) {
        x = (x * 1103515245L + 12345L) % 2147483648L;
        if (x / 65536 % 100 < p && h.states.size() > 0) {
          x = (x * 1103515245L + 12345L) % 2147483648L;
          int s = (int) (x / 65536 % h.states.size());
          if (h.states.get(s) != 2) {
            h.states.set(s, 1 - h.states.get(s));
            h.settle();
          }
        }
        h.pass(forced());
      }
      sum += h.many(what == 0 ? 2 : 1);
    }
    return sum;
  }

  int count(int what) {
    Hall h = now.hall;
    int gives = 0;
    for (int s = 0; s < h.states.size(); s++) gives += h.give(s);
    int[] all = {h.cane.size(), h.heights.size(), h.states.size(), rules.size(), now.inForce, h.minute, h.bits(1),
      h.bits(2), gives, now.notes.size(), now.past.size(), (int) now.x, tape.size()};
    return what >= 0 && what < all.length ? all[what] : -1;
  }

  int image(int k) {
    if (k < 0 || k > 3) return -1;
    images.put(k, now.copy());
    return now.hall.minute;
  }

  int back(int k) {
    if (!images.containsKey(k)) return -1;
    now = images.get(k).copy();
    return now.hall.minute;
  }
}
