import java.util.ArrayList;
import java.util.List;
import java.util.TreeSet;

/** What the tests of the boundary cases share. */
final class Bounds {
  static final int BEYOND = -1000001;
  static final int FULL = -1000002;
  static final int KIND = -1000003;
  static final int NONE = -1000004;
  static final int STATE = -1000005;
  static final int MISSING = -1000006;
  static final int SIZE = -1000007;
  static final int MIN = Integer.MIN_VALUE;
  static final int MAX = Integer.MAX_VALUE;
  static final int PROMISES = 50;

  private static int passed = 0;
  private static int failed = 0;
  private static String name = "";
  private static boolean good = true;
  private static final TreeSet<Integer> tested = new TreeSet<>();

  /** Something done with an object. */
  interface Body {
    void on(EqualPlain p);
  }

  /** One call of an object. */
  interface Call {
    int on(EqualPlain p);
  }

  /** Reads one side of what an object holds; it may change the object by that. */
  private interface Reader {
    List<Integer> read(EqualPlain p);
  }

  private static final List<Reader> READERS =
      List.of(Bounds::readTown, Bounds::readSheets, Bounds::readTape, Bounds::readImage);

  private Bounds() {
  }

  /** A test of one sentence of a promise, with a new object. */
  static void test(int promise, String sentence, Body body) {
    begin(promise, sentence);
    body.on(new EqualPlain());
    end();
  }

  /** Each of the calls answers a finding, which is counted, and changes nothing else. */
  static void refused(int promise, String sentence, int finding, Body setup, Call... calls) {
    begin(promise, sentence);
    for (int i = 0; i < calls.length; i++) {
      int at = i;
      due("call " + i, made(setup, calls[i]), finding);
      if (good) compare("call " + i, setup, p -> { }, p -> calls[at].on(p), BEYOND - finding);
    }
    end();
  }

  /** None of the calls answers a finding or changes anything. */
  static void quiet(int promise, String sentence, Body setup, Call... calls) {
    begin(promise, sentence);
    for (int i = 0; i < calls.length; i++) {
      int at = i;
      compare("call " + i, setup, p -> { }, p -> calls[at].on(p), -1);
    }
    end();
  }

  /** Two ways from one setup lead to the same, and neither counts a finding. */
  static void alike(int promise, String sentence, Body setup, Body one, Body other) {
    begin(promise, sentence);
    compare("the one way and the other", setup, one, other, -1);
    end();
  }

  static void due(long got, long want) {
    int line = new Throwable().getStackTrace()[1].getLineNumber();
    due("line " + line, got, want);
  }

  private static void due(String what, long got, long want) {
    if (got != want) {
      good = false;
      System.out.println(name + ": " + what + ": answered " + got + ", due is " + want);
    }
  }

  /** Says how many passed, and ends with exit code 1 if one failed or a promise has no test. */
  static void report() {
    for (int promise = 1; promise <= PROMISES; promise++) {
      if (!tested.contains(promise)) {
        failed++;
        System.out.println("no test of promise " + promise);
      }
    }
    System.out.println(passed + " passed, " + failed + " failed");
    if (failed > 0) System.exit(1);
  }

  private static void begin(int promise, String sentence) {
    tested.add(promise);
    name = "promise " + promise + ": " + sentence;
    good = true;
  }

  private static void end() {
    if (good) passed++; else failed++;
  }

  private static int made(Body setup, Call call) {
    EqualPlain p = new EqualPlain();
    setup.on(p);
    return call.on(p);
  }

  /** Which finding the other way counts once more than the one does: 0 to 6, or -1 for none. */
  private static void compare(String what, Body setup, Body one, Body other, int counted) {
    for (Reader reader : READERS) {
      EqualPlain a = new EqualPlain();
      EqualPlain b = new EqualPlain();
      setup.on(a);
      setup.on(b);
      one.on(a);
      other.on(b);
      for (int which = 0; which < 7; which++) {
        due(what + ", status " + which, b.status(which), a.status(which) + (which == counted ? 1 : 0));
      }
      List<Integer> left = reader.read(a);
      List<Integer> right = reader.read(b);
      if (!left.equals(right)) {
        good = false;
        System.out.println(name + ": " + what + " changed something: " + left + " to " + right);
      }
    }
  }

  private static List<Integer> readTown(EqualPlain p) {
    List<Integer> out = new ArrayList<>();
    for (int what = 0; what < 8; what++) out.add(p.count(what));
    int houses = p.count(1);
    for (int house = 0; house < houses; house++) {
      for (int what = 0; what < 3; what++) out.add(p.of(house, what));
    }
    for (int spot = 0; spot < 10; spot++) out.add(p.as(spot, 0));
    for (int lot = 0; lot < 144; lot++) out.add(p.worth(lot % 12, lot / 12, 0));
    return out;
  }

  /** Which are of as many bits, how many numbers each has, and the numbers (0 to 99). */
  private static List<Integer> readSheets(EqualPlain p) {
    List<Integer> out = new ArrayList<>();
    for (int s = 0; s < 4; s++) {
      for (int t = 0; t <= s; t++) out.add(p.copy(s, 0, t, 0, 0));
    }
    for (int s = 0; s < 4; s++) {
      out.add(p.load(s));
      for (int lot = 0; lot < 40; lot++) out.add(p.worth(lot % 12, lot / 12, 0));
    }
    return out;
  }

  private static List<Integer> readTape(EqualPlain p) {
    List<Integer> out = new ArrayList<>();
    out.add(p.count(5));
    out.add(p.text());
    for (int what = 0; what < 8; what++) out.add(p.count(what));
    return out;
  }

  private static List<Integer> readImage(EqualPlain p) {
    List<Integer> out = new ArrayList<>();
    out.add(p.undo());
    out.addAll(readTown(p));
    out.add(p.undo());
    out.add(p.tear());
    return out;
  }

  // ---- objects to begin with

  /** Something of everything: what a refused call could spoil. The lots with x 3 are free. */
  static void filled(EqualPlain p) {
    two(p);
    p.grace(5, 9, 8);
    p.worth(3, 3, 30);
    p.worth(3, 7, 9);
    p.hold(0, 1);
    p.hold(9, 2);
    p.sheet(0, 8, 3);
    p.write(0, 0, 39);
    p.write(0, 1, 27);
    p.write(0, 2, 5);
    p.sheet(1, 16, 40);
    p.write(1, 39, 88);
    p.sheet(2, 8, 0);
    p.coin(0);
    p.years(5);
    p.coin(50);
    p.seed(99);
    p.image();
    p.grace(2, 6, 10);
    p.change(2, 6);
    p.coin(345);
    p.worth(3, 3, 31);
    p.years(1);
    p.seed(4711);
    p.hold(3, 0);
    p.hold(9, -1);
    feed(p, "coin 7;hut at 0 0");
  }

  /** Two houses of kind 0 between which just the twelve lots with x 3 are free. */
  static void two(EqualPlain p) {
    p.grace(0, 2, 3);
    p.grace(0, 4, 3);
  }

  /** As two(), and so many ruins, which are no pair with any, on row 11, from x 11 down. */
  static void twoAndRuins(EqualPlain p, int ruins) {
    two(p);
    for (int x = 11; x > 11 - ruins; x--) p.grace(3, x, 11);
  }

  /** Ten houses, the lots with x 3 free. */
  static void ten(EqualPlain p) {
    twoAndRuins(p, 8);
  }

  /** Ten ruins: no pair, no lot free. */
  static void tenRuins(EqualPlain p) {
    for (int x = 0; x < 10; x++) p.grace(3, x, 11);
  }

  /** Ten houses of kind 0, each 25 from the lot (5, 5). */
  static void circle(EqualPlain p) {
    int[] at = {0, 5, 1, 2, 1, 8, 2, 1, 2, 9, 5, 0, 5, 10, 8, 1, 8, 9, 10, 5};
    for (int i = 0; i < 20; i += 2) p.grace(0, at[i], at[i + 1]);
  }

  static void feed(EqualPlain p, String text) {
    for (int i = 0; i < text.length(); i++) p.feed(text.charAt(i), 1);
  }

  /** Feeds a text and has it read. */
  static int read(EqualPlain p, String text) {
    feed(p, text);
    return p.text();
  }

  static void toYear(EqualPlain p, int year) {
    int left = year - p.count(0);
    for (; left > 60; left -= 60) p.years(60);
    if (left > 0) p.years(left);
  }

  /** The least seed whose next draws have these rests: first the rest, then by what. */
  static int seedFor(int... rests) {
    for (int seed = 0; ; seed++) {
      int z = seed;
      boolean fits = true;
      for (int i = 0; i < rests.length; i += 2) {
        z = z * 1103515245 + 12345;
        fits &= (z >>> 8) % rests[i + 1] == rests[i];
      }
      if (fits) return seed;
    }
  }

  /** A seed from which the next year's house would be of a kind on a lot. */
  static int seedToBuild(int kind, int x, int y) {
    return seedFor(x, 12, y, 12, kind, 7);
  }

  /** What z is after so many draws. */
  static int drawn(int z, int times) {
    for (int i = 0; i < times; i++) z = z * 1103515245 + 12345;
    return z;
  }
}
