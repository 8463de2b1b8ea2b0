import java.util.Arrays;

/** Chairs with a give to them: a hall of strands, chairs and sitters, played by hand and asked ahead. */
public final class ChairCane {
  public static final int NONE = -1;

  private static final int NO_ANSWER = -2;
  private static final int NOT_ASKED = -3;

  private static final int MOST_BYTES = 400;
  private static final int MOST_HALL_CLAUSES = 40;
  private static final int MOST_RULE_CLAUSES = 12;
  private static final int MOST_UNITS = 60;
  private static final int MOST_DEEP = 10;
  private static final int MOST_STRANDS = 4;
  private static final int MOST_CHAIRS = 8;
  private static final int MOST_SETS = 256;
  private static final int MOST_CANE = 99;
  private static final int MOST_HEIGHT = 60;
  private static final int MOST_WEIGHT = 20;
  private static final int MOST_DIGITS = 5;
  private static final int MOST_RULES = 6;
  private static final int MOST_ACTS = 20;
  private static final int MOST_NOTES = 10;
  private static final int MOST_IMAGES = 4;
  private static final int LAST_MINUTE = 999;
  private static final int MOST_AHEAD = 100;
  private static final int MOST_FALLS = 200;
  private static final int MOST_RING = 60;
  private static final int MOST_NOTED = 60;
  private static final int MOST_RESTS = 20;
  private static final int MOST_PENCE = 9999;
  private static final int MOST_TOASTS = 10;
  private static final int MOST_TOAST_MINUTES = 60;

  private static final int STANDS = 0;
  private static final int SITS = 1;
  private static final int DROPPED = 2;
  private static final int STATES = 3;

  private static final int CANNOT_STAND = 0;
  private static final int BAD_NUMBER = 1;
  private static final int TOO_DEEP = 2;
  private static final int UNIT_TOO_MANY = 3;
  private static final int CLAUSE_TOO_MANY = 4;

  private static final int BLANK = 32;

  // What the tape is made of: a sign is told by its byte, all else by numbers above bytes.
  private static final int END = -1;
  private static final int LESS_OR_SAME = 256;
  private static final int MORE_OR_SAME = 257;
  private static final int UNKNOWN_WORD = 258;
  private static final int NUMBER = 259;
  private static final int WORD_SITTER = 260;
  private static final int WORD_CHAIR = 261;
  private static final int WORD_WEIGHT = 262;
  private static final int WORD_HEIGHT = 263;
  private static final int WORD_CANE = 264;
  private static final int WORD_SITS = 265;
  private static final int WORD_GIVE = 266;
  private static final int WORD_OTHERS = 267;
  private static final int WORD_PRESS = 268;
  private static final int WORD_DROPPED = 269;
  private static final int WORD_MINUTE = 270;
  private static final int WORD_HALL = 271;
  private static final int WORD_STRAND = 272;
  private static final int WORD_SIT = 273;
  private static final int WORD_IF = 274;
  private static final int WORD_OR = 275;
  private static final int WORD_AND = 276;
  private static final int WORD_NOT = 277;
  // Steps of a rule are told likewise, but for numbers: these are told by this and their value.
  private static final int STEP_NUMBER = 1000;
  private static final int NO_STEP = -1;

  private final Tape tape = new Tape();
  private final Rule[] rules = new Rule[MOST_RULES];
  private int ruleCount = 0;
  private final Standing now = new Standing();
  private final Standing[] images = new Standing[MOST_IMAGES];
  private final boolean[] imageMade = new boolean[MOST_IMAGES];
  // What is asked is tried in this room, so that nothing changes in the one that is.
  private final Room trial = new Room();
  private final boolean[] safe = new boolean[MOST_SETS];
  private final int[] payOfOne = new int[4];
  private final int[] payOfOther = new int[4];
  private final int[] seen = new int[MOST_RING + 1];
  private final int[] tally = new int[MOST_CHAIRS * STATES];

  public ChairCane() {
    for (int k = 0; k < MOST_RULES; k++) {
      rules[k] = new Rule();
    }
    for (int k = 0; k < MOST_IMAGES; k++) {
      images[k] = new Standing();
    }
  }

  // ---- texts ----

  public int feed(int a, int b, int c, int d, int e) {
    if (tape.length + 20 > MOST_BYTES) {
      return NONE;
    }
    tape.append(a);
    tape.append(b);
    tape.append(c);
    tape.append(d);
    tape.append(e);
    return tape.length;
  }

  public int end(int n) {
    if (n < 0 || n > tape.length) {
      return NONE;
    }
    tape.length = n;
    return n;
  }

  public int hall() {
    boolean good = HallReader.read(tape, trial);
    int fault = tape.fault;
    tape.length = 0;
    if (!good) {
      return -2 - fault;
    }
    now.room.copyFrom(trial);
    now.acts.forget();
    now.notes.forget();
    return now.room.sitters;
  }

  public int rule() {
    if (ruleCount >= MOST_RULES) {
      return NONE;
    }
    boolean good = RuleReader.read(tape, rules[ruleCount]);
    int fault = tape.fault;
    tape.length = 0;
    if (!good) {
      return -2 - fault;
    }
    ruleCount++;
    return ruleCount - 1;
  }

  public int force(int rule) {
    if (rule < NONE || rule >= ruleCount) {
      return NO_ANSWER;
    }
    int was = now.inForce;
    now.inForce = rule;
    return was;
  }

  // ---- how it is ----

  public int strand(int strand) {
    return now.room.hasStrand(strand) ? now.room.cane[strand] : NONE;
  }

  public int chair(int chair, int what) {
    Room room = now.room;
    if (!room.hasChair(chair)) {
      return NO_ANSWER;
    }
    switch (what) {
      case 0:
        return room.height[chair];
      case 1:
        return room.strandOf[chair];
      case 2:
        return room.sitterOn(chair);
      case 3:
        return room.givesUnder(room.sitterOn(chair));
      default:
        return NO_ANSWER;
    }
  }

  public int sitter(int sitter, int what) {
    Room room = now.room;
    if (!room.hasSitter(sitter)) {
      return NONE;
    }
    switch (what) {
      case 0:
        return room.chairOf[sitter];
      case 1:
        return room.weight[sitter];
      case 2:
        return room.stateOf(sitter);
      default:
        return NONE;
    }
  }

  // ---- acts ----

  public int minute() {
    Room room = now.room;
    if (!room.told || room.minute >= LAST_MINUTE) {
      return NONE;
    }
    now.acts.keep(room);
    return room.passMinute(ruleInForce());
  }

  public int sit(int sitter) {
    if (now.room.stateOf(sitter) != STANDS) {
      return NONE;
    }
    now.acts.keep(now.room);
    now.room.seat(sitter, true);
    return now.room.settle();
  }

  public int rise(int sitter) {
    if (!now.room.isDown(sitter)) {
      return NONE;
    }
    now.acts.keep(now.room);
    now.room.seat(sitter, false);
    return now.room.settle();
  }

  public int help(int sitter) {
    if (now.room.stateOf(sitter) != DROPPED) {
      return NONE;
    }
    now.acts.keep(now.room);
    now.room.dropped &= ~(1 << sitter);
    return Integer.bitCount(now.room.dropped);
  }

  public int let(int strand, int cane) {
    Room room = now.room;
    if (!room.hasStrand(strand) || cane < 0 || cane > MOST_CANE || cane == room.cane[strand]) {
      return NONE;
    }
    now.acts.keep(room);
    room.cane[strand] = cane;
    return room.settle();
  }

  public int undo() {
    if (now.acts.kept <= 0) {
      return NO_ANSWER;
    }
    now.acts.takeBack(now.room);
    return now.acts.kept;
  }

  // ---- how it goes on ----

  public int ahead(int sitter, int n, int what) {
    Room room = now.room;
    if (!room.told || n < 0 || n > MOST_AHEAD || what < 0 || what > 2) {
      return NONE;
    }
    if (what != 2 && !room.hasSitter(sitter)) {
      return NONE;
    }
    trial.copyFrom(room);
    trial.passMinutes(n, ruleInForce());
    if (what == 2) {
      return Integer.bitCount(trial.dropped);
    }
    return what == 0 ? trial.stateOf(sitter) : trial.givesUnder(sitter);
  }

  public int falls(int what) {
    if (!now.room.told || what < 0 || what > 1) {
      return NONE;
    }
    Rule rule = ruleInForce();
    trial.copyFrom(now.room);
    for (int k = 0; k < MOST_FALLS; k++) {
      int begun = trial.minute;
      int fallen = trial.passMinute(rule);
      if (fallen != 0) {
        return what == 0 ? begun : fallen;
      }
    }
    return NO_ANSWER;
  }

  public int ring(int what) {
    if (!now.room.told || what < 0 || what > 1) {
      return NONE;
    }
    watchSixty();
    for (int from = 0; from < MOST_RING; from++) {
      for (int to = from + 1; to <= MOST_RING; to++) {
        if (seen[from] == seen[to]) {
          return what == 0 ? now.room.minute + from : to - from;
        }
      }
    }
    return NO_ANSWER;
  }

  private void watchSixty() {
    Rule rule = ruleInForce();
    trial.copyFrom(now.room);
    for (int k = 0; k <= MOST_RING; k++) {
      seen[k] = trial.sits | trial.dropped << MOST_CHAIRS;
      trial.passMinute(rule);
    }
  }

  // ---- rising and sitting down ----

  public int felled(int sitter) {
    return now.room.isDown(sitter) ? felledBy(sitter) : NONE;
  }

  private int felledBy(int sitter) {
    trial.copyFrom(now.room);
    trial.seat(sitter, false);
    return trial.settle();
  }

  public int tall(int what) {
    Room room = now.room;
    if (!room.told || what < 0 || what > 1) {
      return NONE;
    }
    int who = NONE;
    int most = NONE;
    for (int k = 0; k < room.sitters; k++) {
      int many = room.isDown(k) ? Integer.bitCount(felledBy(k)) : NONE;
      if (many > most) {
        who = k;
        most = many;
      }
    }
    if (who == NONE) {
      return NO_ANSWER;
    }
    return what == 0 ? who : most;
  }

  public int ease(int what) {
    Room room = now.room;
    if (!room.told || what < 0 || what > 1) {
      return NONE;
    }
    int standing = room.standing();
    int most = 0;
    int best = 0;
    trial.copyFrom(room);
    for (int set = 1; set <= standing; set++) {
      if ((set & ~standing) == 0 && Integer.bitCount(set) > most && trial.bears(room.sits | set)) {
        most = Integer.bitCount(set);
        best = set;
      }
    }
    return what == 0 ? most : best;
  }

  public int way(int what) {
    Room room = now.room;
    if (!room.told || what < 0 || what >= MOST_CHAIRS) {
      return NOT_ASKED;
    }
    if (what >= Integer.bitCount(room.sits)) {
      return NONE;
    }
    findSafeSets();
    int left = room.sits;
    int who = firstToRise(left);
    for (int place = 0; place < what && who != NONE; place++) {
      left &= ~(1 << who);
      who = firstToRise(left);
    }
    return who == NONE ? NO_ANSWER : who;
  }

  /** A set of those who sit is safe if nobody falls while it alone sits, and all of it can rise from there. */
  private void findSafeSets() {
    int sitting = now.room.sits;
    trial.copyFrom(now.room);
    safe[0] = true;
    for (int set = 1; set < MOST_SETS; set++) {
      safe[set] = (set & ~sitting) == 0 && firstToRise(set) != NONE && trial.bears(set);
    }
  }

  private int firstToRise(int set) {
    for (int k = 0; k < MOST_CHAIRS; k++) {
      int rest = set & ~(1 << k);
      if (rest != set && rest >= 0 && rest < MOST_SETS && safe[rest]) {
        return k;
      }
    }
    return NONE;
  }

  // ---- how much is borne ----

  public int most(int strand) {
    if (!now.room.hasStrand(strand)) {
      return NONE;
    }
    trial.copyFrom(now.room);
    for (int cane = MOST_CANE; cane >= 0; cane--) {
      trial.cane[strand] = cane;
      if (trial.givenOut() == 0) {
        return cane;
      }
    }
    return NO_ANSWER;
  }

  public int heavy(int sitter, int what) {
    Room room = now.room;
    if (!room.isUp(sitter) || what < 0 || what > 1) {
      return NONE;
    }
    int many = 0;
    int least = NO_ANSWER;
    trial.copyFrom(room);
    for (int weight = MOST_WEIGHT; weight >= 1; weight--) {
      trial.weight[sitter] = weight;
      if (trial.bears(room.sits | 1 << sitter)) {
        many++;
        least = weight;
      }
    }
    return what == 0 ? many : least;
  }

  public int pence(int much, int sitter) {
    Room room = now.room;
    if (much < 0 || much > MOST_PENCE || !room.hasSitter(sitter)) {
      return NONE;
    }
    int all = room.givesInAll();
    if (all <= 0) {
      return 0;
    }
    int own = much * room.givesUnder(sitter);
    int left = much;
    int ahead = 0;
    for (int k = 0; k < room.sitters; k++) {
      int product = much * room.givesUnder(k);
      left -= product / all;
      if (product % all > own % all || product % all == own % all && k < sitter) {
        ahead++;
      }
    }
    return own / all + (ahead < left ? 1 : 0);
  }

  public int rests(int one, int other, int n, int what) {
    Room room = now.room;
    if (!room.isUp(one) || !room.isUp(other) || one == other) {
      return NONE;
    }
    if (n < 1 || n > MOST_RESTS || what < 0 || what > 2) {
      return NONE;
    }
    for (int ways = 0; ways < 4; ways++) {
      playTwo(one, other, n, ways);
    }
    int many = 0;
    int first = NONE;
    for (int ways = 3; ways >= 0; ways--) {
      if (payOfOne[ways] >= payOfOne[ways ^ 2] && payOfOther[ways] >= payOfOther[ways ^ 1]) {
        many++;
        first = ways;
      }
    }
    if (what == 0) {
      return many;
    }
    if (first == NONE) {
      return NO_ANSWER;
    }
    return what == 1 ? first >> 1 : first & 1;
  }

  /** Ways holds what one does in its second bit and what the other does in its first. */
  private void playTwo(int one, int other, int n, int ways) {
    Rule rule = ruleInForce();
    int pay = 0;
    int payOther = 0;
    trial.copyFrom(now.room);
    trial.held = 1 << one | 1 << other;
    trial.heldDown = ways >> 1 << one | (ways & 1) << other;
    for (int k = 0; k < n; k++) {
      trial.passMinute(rule);
      pay += trial.worthTo(one);
      payOther += trial.worthTo(other);
    }
    payOfOne[ways] = trial.stateOf(one) == DROPPED ? pay - 10 : pay;
    payOfOther[ways] = trial.stateOf(other) == DROPPED ? payOther - 10 : payOther;
  }

  // ---- notes ----

  public int note(int n, int sitter, int state) {
    if (n == NONE) {
      now.notes.forget();
      return 0;
    }
    if (n < 0 || n > MOST_NOTED || !now.room.hasSitter(sitter) || state < 0 || state >= STATES) {
      return NO_ANSWER;
    }
    return now.notes.add(n, sitter, state) ? now.notes.many : NO_ANSWER;
  }

  public int strung(int chair) {
    Room room = now.room;
    if (!room.hasChair(chair)) {
      return NONE;
    }
    int bits = 0;
    for (int strand = 0; strand < room.strands; strand++) {
      if (notesHold(ruleInForce(), chair, strand)) {
        bits |= 1 << strand;
      }
    }
    return bits;
  }

  public int ruled(int what) {
    if (!now.room.told || what < 0 || what > 1) {
      return NOT_ASKED;
    }
    int many = 0;
    int first = NO_ANSWER;
    for (int number = ruleCount - 1; number >= NONE; number--) {
      if (notesHold(ruleAt(number), NONE, NONE)) {
        many++;
        first = number;
      }
    }
    return what == 0 ? many : first;
  }

  public int look(int n, int what) {
    Room room = now.room;
    if (!room.told || n < 0 || n > MOST_NOTED || what < 0 || what > 1) {
      return NONE;
    }
    if (tallyStates(n) == 0) {
      return NO_ANSWER;
    }
    int who = NONE;
    int fewest = 0;
    for (int k = 0; k < room.sitters; k++) {
      int alike = mostAlike(k);
      if (who == NONE || alike < fewest) {
        who = k;
        fewest = alike;
      }
    }
    if (who == NONE) {
      return NO_ANSWER;
    }
    return what == 0 ? who : fewest;
  }

  /** Counts, for each sitter and state, the rules that could be and bring it; answers how many could be. */
  private int tallyStates(int n) {
    int many = 0;
    Arrays.fill(tally, 0);
    for (int number = NONE; number < ruleCount; number++) {
      Rule rule = ruleAt(number);
      if (notesHold(rule, NONE, NONE)) {
        many++;
        beginAnew();
        trial.passMinutes(n, rule);
        for (int k = 0; k < trial.sitters; k++) {
          tally[k * STATES + trial.stateOf(k)]++;
        }
      }
    }
    return many;
  }

  private int mostAlike(int sitter) {
    int at = sitter * STATES;
    return Math.max(tally[at], Math.max(tally[at + 1], tally[at + 2]));
  }

  private void beginAnew() {
    trial.copyFrom(now.room);
    trial.restart();
  }

  /** Are all notes so by this rule, from the begin on, if this chair, if any, is on another strand? */
  private boolean notesHold(Rule rule, int chair, int strand) {
    Notes notes = now.notes;
    int last = Math.min(notes.lastMinute(), MOST_NOTED);
    beginAnew();
    if (trial.hasChair(chair) && trial.hasStrand(strand)) {
      trial.strandOf[chair] = strand;
    }
    for (int n = 0; n <= last; n++) {
      if (!notes.agree(n, trial)) {
        return false;
      }
      trial.passMinute(rule);
    }
    return true;
  }

  private Rule ruleAt(int number) {
    return number >= 0 && number < ruleCount ? rules[number] : null;
  }

  private Rule ruleInForce() {
    return ruleAt(now.inForce);
  }

  // ---- draws ----

  public int seed(int x) {
    if (x < 0) {
      return NONE;
    }
    int was = now.x;
    now.x = x;
    return was;
  }

  public int toasts(int m, int n, int p, int what) {
    if (!now.room.told || m < 1 || m > MOST_TOASTS || n < 1 || n > MOST_TOAST_MINUTES) {
      return NONE;
    }
    if (p < 0 || p > 100 || what < 0 || what > 1) {
      return NONE;
    }
    int x = now.x;
    int many = 0;
    for (int k = 0; k < m; k++) {
      x = playToasts(n, p, x);
      many += Integer.bitCount(what == 0 ? trial.dropped : trial.sits);
    }
    return many;
  }

  /** Plays one dinner in the trial room; answers what x has become. */
  private int playToasts(int n, int p, int from) {
    Rule rule = ruleInForce();
    int x = from;
    trial.copyFrom(now.room);
    for (int k = 0; k < n; k++) {
      x = nextDrawn(x);
      if (drawOf(x) % 100 < p && trial.sitters > 0) {
        x = nextDrawn(x);
        trial.turn(drawOf(x) % trial.sitters);
      }
      trial.passMinute(rule);
    }
    return x;
  }

  private static int nextDrawn(int x) {
    return (int) (x * 1103515245L + 12345L & 2147483647L);
  }

  private static int drawOf(int x) {
    return x / 65536;
  }

  // ---- all in numbers; images ----

  public int count(int what) {
    Room room = now.room;
    switch (what) {
      case 0:
        return room.strands;
      case 1:
        return room.chairs;
      case 2:
        return room.sitters;
      case 3:
        return ruleCount;
      case 4:
        return now.inForce;
      case 5:
        return room.minute;
      case 6:
        return room.sits;
      case 7:
        return room.dropped;
      case 8:
        return room.givesInAll();
      case 9:
        return now.notes.many;
      case 10:
        return now.acts.kept;
      case 11:
        return now.x;
      case 12:
        return tape.length;
      default:
        return NONE;
    }
  }

  public int image(int k) {
    if (k < 0 || k >= MOST_IMAGES) {
      return NONE;
    }
    images[k].copyFrom(now);
    imageMade[k] = true;
    return now.room.minute;
  }

  public int back(int k) {
    if (k < 0 || k >= MOST_IMAGES || !imageMade[k]) {
      return NONE;
    }
    now.copyFrom(images[k]);
    return now.room.minute;
  }

  /** All that an image keeps. */
  private static final class Standing {
    final Room room = new Room();
    final Acts acts = new Acts();
    final Notes notes = new Notes();
    int inForce = NONE;
    int x = 0;

    void copyFrom(Standing from) {
      room.copyFrom(from.room);
      acts.copyFrom(from.acts);
      notes.copyFrom(from.notes);
      inForce = from.inForce;
      x = from.x;
    }
  }

  /** A hall as it was told and as it is. */
  private static final class Room {
    boolean told = false;
    int strands = 0;
    int chairs = 0;
    int sitters = 0;
    final int[] toldCane = new int[MOST_STRANDS];
    final int[] height = new int[MOST_CHAIRS];
    final int[] strandOf = new int[MOST_CHAIRS];
    final int[] chairOf = new int[MOST_CHAIRS];
    final int[] weight = new int[MOST_CHAIRS];
    final int[] cane = new int[MOST_STRANDS];
    int sits = 0;
    int dropped = 0;
    int minute = 0;
    // Who sits on each strand, so that a give needs no look at all the others.
    final int[] load = new int[MOST_STRANDS];
    final int[] heads = new int[MOST_STRANDS];
    // Those who sit or stand whatever the rule says, and who of them sit.
    int held = 0;
    int heldDown = 0;

    void clear() {
      told = false;
      strands = 0;
      chairs = 0;
      sitters = 0;
    }

    /** All as the text told it, before the first minute. */
    void restart() {
      System.arraycopy(toldCane, 0, cane, 0, MOST_STRANDS);
      sits = 0;
      dropped = 0;
      minute = 0;
      held = 0;
      weigh();
    }

    void copyFrom(Room from) {
      told = from.told;
      strands = from.strands;
      chairs = from.chairs;
      sitters = from.sitters;
      System.arraycopy(from.toldCane, 0, toldCane, 0, MOST_STRANDS);
      System.arraycopy(from.height, 0, height, 0, MOST_CHAIRS);
      System.arraycopy(from.strandOf, 0, strandOf, 0, MOST_CHAIRS);
      System.arraycopy(from.chairOf, 0, chairOf, 0, MOST_CHAIRS);
      System.arraycopy(from.weight, 0, weight, 0, MOST_CHAIRS);
      System.arraycopy(from.cane, 0, cane, 0, MOST_STRANDS);
      System.arraycopy(from.load, 0, load, 0, MOST_STRANDS);
      System.arraycopy(from.heads, 0, heads, 0, MOST_STRANDS);
      sits = from.sits;
      dropped = from.dropped;
      minute = from.minute;
      held = 0;
    }

    boolean hasStrand(int k) {
      return k >= 0 && k < strands;
    }

    boolean hasChair(int k) {
      return k >= 0 && k < chairs;
    }

    boolean hasSitter(int k) {
      return k >= 0 && k < sitters;
    }

    /** What the sitter does; NONE without that sitter. */
    int stateOf(int k) {
      if (!hasSitter(k)) {
        return NONE;
      }
      if ((dropped >> k & 1) != 0) {
        return DROPPED;
      }
      return (sits >> k & 1) != 0 ? SITS : STANDS;
    }

    boolean isUp(int k) {
      return k >= 0 && k < sitters && (dropped >> k & 1) == 0;
    }

    boolean isDown(int k) {
      return k >= 0 && k < sitters && (sits >> k & 1) != 0;
    }

    int standing() {
      return (1 << sitters) - 1 & ~sits & ~dropped;
    }

    int sitterOn(int chair) {
      for (int k = 0; k < sitters; k++) {
        if (chairOf[k] == chair) {
          return k;
        }
      }
      return NONE;
    }

    int givesUnder(int sitter) {
      if (sitter < 0 || sitter >= sitters || (sits >> sitter & 1) == 0) {
        return 0;
      }
      int strand = strandOf[chairOf[sitter]];
      return load[strand] > 0 ? cane[strand] * weight[sitter] / load[strand] : 0;
    }

    int givesInAll() {
      int all = 0;
      for (int k = 0; k < sitters; k++) {
        all += givesUnder(k);
      }
      return all;
    }

    /** What a minute is worth to a sitter behind it. */
    int worthTo(int sitter) {
      return isDown(sitter) ? 1 + givesUnder(sitter) / 10 : 0;
    }

    /** One who is not dropped sits from now on, or stands. */
    void seat(int sitter, boolean down) {
      if (!isUp(sitter) || isDown(sitter) == down) {
        return;
      }
      int strand = strandOf[chairOf[sitter]];
      sits ^= 1 << sitter;
      load[strand] += down ? weight[sitter] : -weight[sitter];
      heads[strand] += down ? 1 : -1;
    }

    /** Reckons load and heads anew from who sits. */
    void weigh() {
      Arrays.fill(load, 0);
      Arrays.fill(heads, 0);
      for (int k = 0; k < sitters; k++) {
        if (isDown(k)) {
          int strand = strandOf[chairOf[k]];
          load[strand] += weight[k];
          heads[strand]++;
        }
      }
    }

    /** If these sit, is nobody dropped? Leaves the room so. */
    boolean bears(int sitting) {
      sits = sitting;
      weigh();
      return givenOut() == 0;
    }

    /** Those who sit and whose chair gives as much as it is high. */
    int givenOut() {
      int bits = 0;
      for (int k = 0; k < sitters; k++) {
        if (givesUnder(k) >= height[chairOf[k]]) {
          bits |= 1 << k;
        }
      }
      return bits;
    }

    /** Answers who is dropped. */
    int settle() {
      int fallen = 0;
      for (int round = 0; round <= MOST_CHAIRS; round++) {
        int falling = givenOut();
        if (falling == 0) {
          return fallen;
        }
        sits &= ~falling;
        dropped |= falling;
        fallen |= falling;
        weigh();
      }
      return fallen;
    }

    /** Answers who is dropped in it. */
    int passMinute(Rule rule) {
      for (int k = 0; k < sitters; k++) {
        if ((held >> k & 1) != 0) {
          seat(k, (heldDown >> k & 1) != 0);
        } else if (rule != null && isUp(k)) {
          seat(k, rule.seats(k, this));
        }
      }
      int fallen = settle();
      minute++;
      return fallen;
    }

    void passMinutes(int n, Rule rule) {
      for (int k = 0; k < n; k++) {
        passMinute(rule);
      }
    }

    void turn(int sitter) {
      seat(sitter, !isDown(sitter));
      settle();
    }

    int wordOf(int word, int sitter) {
      if (!hasSitter(sitter)) {
        return 0;
      }
      int strand = strandOf[chairOf[sitter]];
      boolean down = isDown(sitter);
      switch (word) {
        case WORD_SITTER:
          return sitter;
        case WORD_CHAIR:
          return chairOf[sitter];
        case WORD_WEIGHT:
          return weight[sitter];
        case WORD_HEIGHT:
          return height[chairOf[sitter]];
        case WORD_CANE:
          return cane[strand];
        case WORD_SITS:
          return down ? 1 : 0;
        case WORD_GIVE:
          return givesUnder(sitter);
        case WORD_OTHERS:
          return down ? heads[strand] - 1 : heads[strand];
        case WORD_PRESS:
          return down ? load[strand] - weight[sitter] : load[strand];
        case WORD_DROPPED:
          return Integer.bitCount(dropped);
        case WORD_MINUTE:
          return minute;
        default:
          return 0;
      }
    }
  }

  /** How it was ahead of each of the last acts: a round row, of which the oldest is overwritten. */
  private static final class Acts {
    final int[] seats = new int[MOST_ACTS];
    final int[] minutes = new int[MOST_ACTS];
    final int[] canes = new int[MOST_ACTS];
    int next = 0;
    int kept = 0;

    void forget() {
      kept = 0;
    }

    void copyFrom(Acts from) {
      System.arraycopy(from.seats, 0, seats, 0, MOST_ACTS);
      System.arraycopy(from.minutes, 0, minutes, 0, MOST_ACTS);
      System.arraycopy(from.canes, 0, canes, 0, MOST_ACTS);
      next = from.next;
      kept = from.kept;
    }

    void keep(Room room) {
      seats[next] = room.sits | room.dropped << MOST_CHAIRS;
      minutes[next] = room.minute;
      int packed = 0;
      for (int k = MOST_STRANDS - 1; k >= 0; k--) {
        packed = packed << 7 | room.cane[k];
      }
      canes[next] = packed;
      next = (next + 1) % MOST_ACTS;
      kept = Math.min(kept + 1, MOST_ACTS);
    }

    void takeBack(Room room) {
      if (kept <= 0) {
        return;
      }
      kept--;
      next = (next + MOST_ACTS - 1) % MOST_ACTS;
      room.sits = seats[next] & MOST_SETS - 1;
      room.dropped = seats[next] >> MOST_CHAIRS;
      room.minute = minutes[next];
      for (int k = 0; k < MOST_STRANDS; k++) {
        room.cane[k] = canes[next] >> 7 * k & 127;
      }
      room.weigh();
    }
  }

  /** What was seen at the begin of minutes. */
  private static final class Notes {
    final int[] minutes = new int[MOST_NOTES];
    final int[] whose = new int[MOST_NOTES];
    final int[] states = new int[MOST_NOTES];
    int many = 0;

    void forget() {
      many = 0;
    }

    void copyFrom(Notes from) {
      System.arraycopy(from.minutes, 0, minutes, 0, MOST_NOTES);
      System.arraycopy(from.whose, 0, whose, 0, MOST_NOTES);
      System.arraycopy(from.states, 0, states, 0, MOST_NOTES);
      many = from.many;
    }

    boolean add(int n, int sitter, int state) {
      if (many >= MOST_NOTES) {
        return false;
      }
      minutes[many] = n;
      whose[many] = sitter;
      states[many] = state;
      many++;
      return true;
    }

    /** The last minute of which there is a note; NONE without notes. */
    int lastMinute() {
      int last = NONE;
      for (int k = 0; k < many; k++) {
        last = Math.max(last, minutes[k]);
      }
      return last;
    }

    boolean agree(int n, Room room) {
      for (int k = 0; k < many; k++) {
        if (minutes[k] == n && room.stateOf(whose[k]) != states[k]) {
          return false;
        }
      }
      return true;
    }
  }

  /** The bytes that were fed; and what they are made of, read one behind the other up to the first fault. */
  private static final class Tape {
    final byte[] bytes = new byte[MOST_BYTES];
    int length = 0;
    // Words, numbers and signs, each at least a byte long, and the end behind them.
    final int[] kinds = new int[MOST_BYTES + 1];
    final int[] places = new int[MOST_BYTES + 1];
    final int[] values = new int[MOST_BYTES + 1];
    int pieces = 0;
    int at = 0;
    int fault = 0;

    void append(int number) {
      for (int shift = 24; shift >= 0; shift -= 8) {
        if (length < MOST_BYTES) {
          bytes[length] = (byte) (number >> shift);
          length++;
        }
      }
    }

    void cutUp() {
      pieces = 0;
      at = 0;
      fault = 0;
      for (int place = 0; place < length; place++) {
        if (byteAt(place) != BLANK) {
          place = Math.max(place, addPiece(place));
        }
      }
      put(END, length, 0);
    }

    private int byteAt(int place) {
      return place >= 0 && place < length ? bytes[place] & 255 : END;
    }

    private void put(int kind, int place, int value) {
      if (pieces <= MOST_BYTES) {
        kinds[pieces] = kind;
        places[pieces] = place;
        values[pieces] = value;
        pieces++;
      }
    }

    /** Answers the place of the piece's last byte, as those below do. */
    private int addPiece(int from) {
      int first = byteAt(from);
      if (isLetter(first)) {
        return addWord(from);
      }
      if (isDigit(first)) {
        return addNumber(from);
      }
      if ((first == '<' || first == '>') && byteAt(from + 1) == '=') {
        put(first == '<' ? LESS_OR_SAME : MORE_OR_SAME, from, 0);
        return from + 1;
      }
      put(first, from, 0);
      return from;
    }

    private int addWord(int from) {
      int behind = from;
      while (behind < length && isLetter(byteAt(behind))) {
        behind++;
      }
      int kind = UNKNOWN_WORD;
      for (int word = WORD_SITTER; word <= WORD_NOT; word++) {
        if (reads(spelled(word), from, behind)) {
          kind = word;
        }
      }
      put(kind, from, 0);
      return behind - 1;
    }

    private boolean reads(String word, int from, int behind) {
      if (word.length() != behind - from) {
        return false;
      }
      for (int k = 0; k < word.length(); k++) {
        if (byteAt(from + k) != word.charAt(k)) {
          return false;
        }
      }
      return true;
    }

    /** A number of too many digits has the value NONE, which nothing that is told allows. */
    private int addNumber(int from) {
      int behind = from;
      int value = 0;
      while (behind < length && isDigit(byteAt(behind))) {
        if (behind - from < MOST_DIGITS) {
          value = value * 10 + byteAt(behind) - '0';
        }
        behind++;
      }
      put(NUMBER, from, behind - from > MOST_DIGITS ? NONE : value);
      return behind - 1;
    }

    private static boolean isLetter(int sign) {
      return sign >= 'a' && sign <= 'z';
    }

    private static boolean isDigit(int sign) {
      return sign >= '0' && sign <= '9';
    }

    int kind() {
      return at < pieces ? kinds[at] : END;
    }

    int value() {
      return at < pieces ? values[at] : NONE;
    }

    void skip() {
      if (at + 1 < pieces) {
        at++;
      }
    }

    boolean take(int kind) {
      if (kind() != kind) {
        return false;
      }
      skip();
      return true;
    }

    /** A number from least to most; NONE with its fault. */
    int takeNumber(int least, int most) {
      if (kind() != NUMBER) {
        fail(CANNOT_STAND);
        return NONE;
      }
      int value = value();
      if (value < least || value > most) {
        fail(BAD_NUMBER);
        return NONE;
      }
      skip();
      return value;
    }

    /** The fault is where reading has come to. */
    boolean fail(int kind) {
      fault = 1 + 8 * (at < pieces ? places[at] : length) + kind;
      return false;
    }

    private static String spelled(int word) {
      switch (word) {
        case WORD_SITTER:
          return "sitter";
        case WORD_CHAIR:
          return "chair";
        case WORD_WEIGHT:
          return "weight";
        case WORD_HEIGHT:
          return "height";
        case WORD_CANE:
          return "cane";
        case WORD_SITS:
          return "sits";
        case WORD_GIVE:
          return "give";
        case WORD_OTHERS:
          return "others";
        case WORD_PRESS:
          return "press";
        case WORD_DROPPED:
          return "dropped";
        case WORD_MINUTE:
          return "minute";
        case WORD_HALL:
          return "hall";
        case WORD_STRAND:
          return "strand";
        case WORD_SIT:
          return "sit";
        case WORD_IF:
          return "if";
        case WORD_OR:
          return "or";
        case WORD_AND:
          return "and";
        case WORD_NOT:
          return "not";
        default:
          return "";
      }
    }
  }

  /** Reads a hall from a tape into a room. */
  private static final class HallReader {
    static boolean read(Tape tape, Room room) {
      tape.cutUp();
      room.clear();
      for (int clauses = 0; clauses <= MOST_HALL_CLAUSES; clauses++) {
        if (!readClause(tape, room, clauses)) {
          return false;
        }
        if (tape.kind() == END) {
          room.restart();
          return true;
        }
        if (!tape.take(';')) {
          return tape.fail(CANNOT_STAND);
        }
      }
      return false;
    }

    private static boolean readClause(Tape tape, Room room, int clauses) {
      int kind = tape.kind();
      if (kind != WORD_HALL && kind != WORD_STRAND && kind != WORD_CHAIR && kind != WORD_SITTER) {
        return tape.fail(CANNOT_STAND);
      }
      if (clauses >= MOST_HALL_CLAUSES || (kind == WORD_HALL) == room.told) {
        return tape.fail(CLAUSE_TOO_MANY);
      }
      if (kind == WORD_STRAND && room.strands >= MOST_STRANDS || kind == WORD_CHAIR && room.chairs >= MOST_CHAIRS) {
        return tape.fail(CLAUSE_TOO_MANY);
      }
      tape.skip();
      switch (kind) {
        case WORD_STRAND:
          return readStrand(tape, room);
        case WORD_CHAIR:
          return readChair(tape, room);
        case WORD_SITTER:
          return readSitter(tape, room);
        default:
          room.told = true;
          return true;
      }
    }

    private static boolean readStrand(Tape tape, Room room) {
      int cane = tape.takeNumber(0, MOST_CANE);
      if (cane == NONE || room.strands >= MOST_STRANDS) {
        return false;
      }
      room.toldCane[room.strands] = cane;
      room.strands++;
      return true;
    }

    private static boolean readChair(Tape tape, Room room) {
      int height = tape.takeNumber(1, MOST_HEIGHT);
      if (height == NONE) {
        return false;
      }
      int strand = tape.takeNumber(0, room.strands - 1);
      if (strand == NONE || room.chairs >= MOST_CHAIRS) {
        return false;
      }
      room.height[room.chairs] = height;
      room.strandOf[room.chairs] = strand;
      room.chairs++;
      return true;
    }

    private static boolean readSitter(Tape tape, Room room) {
      if (tape.kind() == NUMBER && room.sitterOn(tape.value()) != NONE) {
        return tape.fail(BAD_NUMBER);
      }
      int chair = tape.takeNumber(0, room.chairs - 1);
      if (chair == NONE) {
        return false;
      }
      int weight = tape.takeNumber(1, MOST_WEIGHT);
      if (weight == NONE || room.sitters >= MOST_CHAIRS) {
        return false;
      }
      room.chairOf[room.sitters] = chair;
      room.weight[room.sitters] = weight;
      room.sitters++;
      return true;
    }
  }

  /** Clauses as rows of steps, values ahead of what is made of them. */
  private static final class Rule {
    // Each step comes from a byte of its own, so there are no more of them than bytes.
    final int[] steps = new int[MOST_BYTES];
    final int[] sumFrom = new int[MOST_RULE_CLAUSES];
    final int[] sumTo = new int[MOST_RULE_CLAUSES];
    final int[] testTo = new int[MOST_RULE_CLAUSES];
    final long[] stack = new long[MOST_UNITS];
    int length = 0;
    int clauses = 0;
    // Values, and facts made of a sign.
    int units = 0;

    void clear() {
      length = 0;
      clauses = 0;
      units = 0;
    }

    void add(int step) {
      if (length < MOST_BYTES) {
        steps[length] = step;
        length++;
      }
    }

    /** The steps of the test, if there is one, follow those of the sum. */
    void closeClause(int from, int to) {
      if (clauses < MOST_RULE_CLAUSES) {
        sumFrom[clauses] = from;
        sumTo[clauses] = to;
        testTo[clauses] = length;
        clauses++;
      }
    }

    boolean seats(int sitter, Room room) {
      for (int k = 0; k < clauses; k++) {
        boolean tested = sumTo[k] < testTo[k];
        if (!tested || reckon(sumTo[k], testTo[k], sitter, room) != 0) {
          return reckon(sumFrom[k], sumTo[k], sitter, room) > 0;
        }
      }
      return false;
    }

    private long reckon(int from, int to, int sitter, Room room) {
      int top = 0;
      for (int at = from; at < to && at < length; at++) {
        int step = steps[at];
        boolean number = step >= STEP_NUMBER;
        if (number || step >= WORD_SITTER && step <= WORD_MINUTE) {
          if (top < MOST_UNITS) {
            stack[top] = number ? step - STEP_NUMBER : room.wordOf(step, sitter);
            top++;
          }
        } else if (step == WORD_NOT) {
          if (top > 0) {
            stack[top - 1] = 1 - stack[top - 1];
          }
        } else if (top > 1) {
          top--;
          stack[top - 1] = combine(step, stack[top - 1], stack[top]);
        }
      }
      return top > 0 ? stack[top - 1] : 0;
    }

    private static long combine(int step, long left, long right) {
      switch (step) {
        case '+':
          return left + right;
        case '-':
          return left - right;
        case '*':
          return left * right;
        case '/':
          return right == 0 ? 0 : left / right;
        case '%':
          return right == 0 ? 0 : left % right;
        case '<':
          return left < right ? 1 : 0;
        case LESS_OR_SAME:
          return left <= right ? 1 : 0;
        case '=':
          return left == right ? 1 : 0;
        case MORE_OR_SAME:
          return left >= right ? 1 : 0;
        case '>':
          return left > right ? 1 : 0;
        case WORD_AND:
          return left & right;
        case WORD_OR:
          return left | right;
        default:
          return 0;
      }
    }
  }

  /** Reads a rule from a tape into steps. */
  private static final class RuleReader {
    static boolean read(Tape tape, Rule rule) {
      tape.cutUp();
      rule.clear();
      for (int clauses = 0; clauses <= MOST_RULE_CLAUSES; clauses++) {
        int from = rule.length;
        if (!openClause(tape, clauses) || !readSum(tape, rule)) {
          return false;
        }
        int to = rule.length;
        if (tape.take(WORD_IF) && !readTest(tape, rule, 0)) {
          return false;
        }
        rule.closeClause(from, to);
        if (tape.kind() == END) {
          return true;
        }
        if (!tape.take(';')) {
          return tape.fail(CANNOT_STAND);
        }
      }
      return false;
    }

    private static boolean openClause(Tape tape, int clauses) {
      if (tape.kind() != WORD_SIT) {
        return tape.fail(CANNOT_STAND);
      }
      if (clauses >= MOST_RULE_CLAUSES) {
        return tape.fail(CLAUSE_TOO_MANY);
      }
      tape.skip();
      return true;
    }

    /** And binds more closely than or. Deep: how many [ and not stand open around it. */
    private static boolean readTest(Tape tape, Rule rule, int deep) {
      boolean either = false;
      boolean both = false;
      for (int facts = 0; facts < MOST_BYTES; facts++) {
        if (!readFact(tape, rule, deep)) {
          return false;
        }
        if (both) {
          rule.add(WORD_AND);
        }
        both = tape.take(WORD_AND);
        if (!both) {
          if (either) {
            rule.add(WORD_OR);
          }
          either = tape.take(WORD_OR);
          if (!either) {
            return true;
          }
        }
      }
      return false;
    }

    private static boolean readFact(Tape tape, Rule rule, int deep) {
      int kind = tape.kind();
      if (kind != '[' && kind != WORD_NOT) {
        return readComparison(tape, rule);
      }
      if (deep >= MOST_DEEP) {
        return tape.fail(TOO_DEEP);
      }
      tape.skip();
      if (kind == '[') {
        return readTest(tape, rule, deep + 1) && (tape.take(']') || tape.fail(CANNOT_STAND));
      }
      if (!readFact(tape, rule, deep + 1)) {
        return false;
      }
      rule.add(WORD_NOT);
      return true;
    }

    private static boolean readComparison(Tape tape, Rule rule) {
      if (!readSum(tape, rule)) {
        return false;
      }
      int sign = tape.kind();
      if (sign != '<' && sign != LESS_OR_SAME && sign != '=' && sign != MORE_OR_SAME && sign != '>') {
        return tape.fail(CANNOT_STAND);
      }
      if (rule.units >= MOST_UNITS) {
        return tape.fail(UNIT_TOO_MANY);
      }
      rule.units++;
      tape.skip();
      if (!readSum(tape, rule)) {
        return false;
      }
      rule.add(sign);
      return true;
    }

    /** What waits to be multiplied is reckoned ahead of what waits to be added. */
    private static boolean readSum(Tape tape, Rule rule) {
      int adding = NO_STEP;
      int multiplying = NO_STEP;
      for (int values = 0; values < MOST_BYTES; values++) {
        if (!readValue(tape, rule)) {
          return false;
        }
        if (multiplying != NO_STEP) {
          rule.add(multiplying);
        }
        multiplying = takeOneOf(tape, '*', '/', '%');
        if (multiplying == NO_STEP) {
          if (adding != NO_STEP) {
            rule.add(adding);
          }
          adding = takeOneOf(tape, '+', '-', '-');
          if (adding == NO_STEP) {
            return true;
          }
        }
      }
      return false;
    }

    private static int takeOneOf(Tape tape, int first, int second, int third) {
      int kind = tape.kind();
      if (kind != first && kind != second && kind != third) {
        return NO_STEP;
      }
      tape.skip();
      return kind;
    }

    private static boolean readValue(Tape tape, Rule rule) {
      int kind = tape.kind();
      int value = tape.value();
      if (kind != NUMBER && (kind < WORD_SITTER || kind > WORD_MINUTE)) {
        return tape.fail(CANNOT_STAND);
      }
      if (kind == NUMBER && value == NONE) {
        return tape.fail(BAD_NUMBER);
      }
      if (rule.units >= MOST_UNITS) {
        return tape.fail(UNIT_TOO_MANY);
      }
      rule.units++;
      tape.skip();
      rule.add(kind == NUMBER ? STEP_NUMBER + value : kind);
      return true;
    }
  }
}
