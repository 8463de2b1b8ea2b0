import java.lang.management.ManagementFactory;

/**
 * No call may throw or make objects, whatever is asked of whatever hall: arguments at and beyond every edge,
 * with and without a hall, a rule, sitters; and the memory that a thread has taken, before and behind.
 */
public final class RoomTest {
  private static final int[] EDGES = {Integer.MIN_VALUE, -99, -3, -2, -1, 0, 1, 2, 3, 4, 5, 6, 7, 8, 9, 10, 11, 19, 20, 21, 59,
    60, 61, 99, 100, 101, 200, 400, 401, 9999, 10000, Integer.MAX_VALUE};
  private static final String FULL = "hall;strand 99;strand 99;strand 0;strand 50;chair 60 0;chair 50 0;chair 40 0;chair 30 1;"
      + "chair 20 1;chair 60 3;chair 1 2;chair 1 3;sitter 7 20;sitter 6 20;sitter 5 1;sitter 4 2;sitter 3 3;sitter 2 20;sitter 1 20;sitter 0 20";
  private static final String RULE = "sit 65536*65536*65536*32768"
      + "+minute%3+sitter*give-press/others%cane if not [minute/7%2=1 and sits<=height] or dropped>weight%chair;sit 1";
  // what the machine's own counting may take in a test
  private static final long LITTLE = 4096;

  public static void main(String[] args) {
    String[] halls = {null, "hall", "hall;strand 5;chair 9 0", FULL};
    int failed = 0;
    int passed = 0;
    for (int pass = 0; pass < 2; pass++) {
      for (String hall : halls) {
        long taken = run(hall);
        // the first pass warms the machine up
        boolean good = pass == 0 || taken <= LITTLE;
        if (good) {
          passed++;
        } else {
          failed++;
          System.out.println("calls with " + hall + " took " + taken + " bytes");
        }
      }
    }
    System.out.println("RoomTest: " + passed + " passed, " + failed + " failed");
    if (failed != 0) System.exit(1);
  }

  private static void wants(String text, boolean good) {
    if (!good) {
      System.out.println("the test's own " + text + " was refused");
      System.exit(1);
    }
  }

  private static long taken() {
    return ((com.sun.management.ThreadMXBean) ManagementFactory.getThreadMXBean()).getThreadAllocatedBytes(Thread.currentThread().getId());
  }

  private static long run(String hall) {
    ChairCane x = new ChairCane();
    int[] text = hall == null ? new int[0] : packed(hall);
    int[] rule = packed(RULE);
    long before = taken();
    if (hall != null) {
      tell(x, text, hall.length());
      wants("hall", x.hall() >= 0);
    }
    tell(x, rule, RULE.length());
    wants("rule", x.rule() == 0);
    x.force(0);
    x.image(1);
    for (int a : EDGES) {
      single(x, a);
      for (int b : EDGES) {
        pairs(x, a, b);
      }
    }
    return taken() - before;
  }

  private static void single(ChairCane x, int a) {
    x.strand(a);
    x.sit(a);
    x.minute();
    x.rise(a);
    x.help(a);
    x.falls(a);
    x.felled(a);
    x.tall(a);
    x.ease(a);
    x.way(a);
    x.most(a);
    x.strung(a);
    x.ring(a);
    x.ruled(a);
    x.seed(a);
    x.count(a);
    x.force(a);
    x.image(a);
    x.undo();
    x.back(a);
    x.feed(a, a, a, a, a);
    x.end(a);
    x.rule();
    x.feed(a, 0x73697420, 0x31206966, a, a);
    x.hall();
    x.force(0);
  }

  private static void pairs(ChairCane x, int a, int b) {
    x.chair(a, b);
    x.sitter(a, b);
    x.let(a, b);
    x.sit(b);
    x.heavy(a, b);
    x.pence(a, b);
    x.look(a, b);
    for (int c = -1; c <= 3; c++) {
      x.ahead(a, b, c);
      x.note(a, b, c);
      x.rests(a, b, 2, c);
      x.rests(0, 1, a, b);
      x.toasts(a, b, 50, c);
      x.toasts(2, 2, a, b);
    }
    x.note(-1, a, b);
  }

  private static void tell(ChairCane x, int[] n, int length) {
    x.end(0);
    for (int k = 0; k + 4 < n.length; k += 5) x.feed(n[k], n[k + 1], n[k + 2], n[k + 3], n[k + 4]);
    x.end(length);
  }

  private static int[] packed(String text) {
    int[] n = new int[(text.length() + 19) / 20 * 5];
    for (int k = 0; k < n.length * 4; k++) n[k / 4] = n[k / 4] << 8 | (k < text.length() ? text.charAt(k) : 0);
    return n;
  }
}
