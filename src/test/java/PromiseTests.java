import java.util.function.Consumer;

/** For each promise of the document: ordinary inputs, the edges that it names, wrong inputs. */
public final class PromiseTests {
  private static final int BEYOND = -1000001;
  private static final int FULL = -1000002;
  private static final int KIND = -1000003;
  private static final int NONE = -1000004;
  private static final int STATE = -1000005;
  private static final int MISSING = -1000006;
  private static final int SIZE = -1000007;
  private static final int MIN = Integer.MIN_VALUE;
  private static final int MAX = Integer.MAX_VALUE;

  private static int passed = 0;
  private static int failed = 0;
  private static String promise = "";
  private static boolean good = true;

  private static void due(long got, long want) {
    if (got != want) {
      good = false;
      int line = new Throwable().getStackTrace()[1].getLineNumber();
      System.out.println("promise " + promise + ", line " + line + ": answered " + got + ", due is " + want);
    }
  }

  private static void test(String name, Consumer<EqualPlain> body) {
    promise = name;
    good = true;
    body.accept(new EqualPlain());
    if (good) passed++; else failed++;
  }

  /** Feeds a text and has it read. */
  private static int read(EqualPlain p, String text) {
    for (int i = 0; i < text.length(); i++) p.feed(text.charAt(i), 1);
    return p.text();
  }

  /** Two houses of kind 0 between which just the twelve lots with x 3 are free. */
  private static void two(EqualPlain p) {
    p.grace(0, 2, 3);
    p.grace(0, 4, 3);
  }

  /** Ten ruins on row 11: no pair, no lot free. */
  private static void tenRuins(EqualPlain p) {
    for (int x = 0; x < 10; x++) p.grace(3, x, 11);
  }

  private static void toYear(EqualPlain p, int year) {
    while (year - p.count(0) > 60) p.years(60);
    if (year > p.count(0)) p.years(year - p.count(0));
  }

  public static void main(String[] args) {
    houses();
    lots();
    whoseHouse();
    hutsAndOpenings();
    village();
    years();
    texts();
    spotsAndSheets();
    images();
    System.out.println(passed + " passed, " + failed + " failed");
    if (failed > 0) System.exit(1);
  }

  private static void houses() {
    test("1", p -> {
      int[] counts = {0, 0, 100, 0, 0, 0, 1, 0};
      for (int what = 0; what < counts.length; what++) due(p.count(what), counts[what]);
      for (int which = -1; which < 7; which++) due(p.status(which), 0);
      for (int s = 0; s < 4; s++) due(p.load(s), MISSING);
      for (int spot = 0; spot < 10; spot++) due(p.as(spot, 0), MISSING);
      due(p.worth(11, 11, 0), 0);
      due(p.undo(), NONE);
      due(p.wipe(), 0);
      due(p.tear(), 0);
    });
    test("2", p -> {
      due(p.grace(0, 0, 0), 0);
      due(p.grace(6, 11, 11), 1);
      due(p.grace(5, 11, 11), STATE);
      due(p.grace(-1, 0, 0), BEYOND);
      due(p.grace(7, 1, 1), BEYOND);
      due(p.grace(0, -1, 1), BEYOND);
      due(p.grace(0, 12, 1), BEYOND);
      due(p.grace(0, 1, -1), BEYOND);
      due(p.grace(0, 1, 12), BEYOND);
      due(p.grace(MIN, MAX, MIN), BEYOND);
      for (int x = 0; x < 8; x++) due(p.grace(x % 7, x, 5), 2 + x);
      due(p.grace(0, 0, 0), STATE);
      due(p.grace(0, 9, 9), FULL);
      due(p.grace(7, 9, 9), BEYOND);
      due(p.count(1), 10);
      due(p.count(2), 100);
    });
    test("3", p -> {
      due(p.build(0, 3, 3), STATE);
      two(p);
      p.worth(3, 0, 7);
      due(p.build(0, 3, 0), 97);
      due(p.worth(3, 0, 0), 7);
      due(p.of(2, 2), 0);
      due(p.build(0, 2, 3), STATE);
      due(p.build(0, 3, 0), STATE);
      due(p.build(7, 3, 1), BEYOND);
      due(p.build(0, 3, 12), BEYOND);
      due(p.coin(39), 97);
      due(p.build(6, 3, 1), STATE);
      due(p.coin(40), 39);
      due(p.build(6, 3, 1), 0);
      due(p.of(3, 0), 6);
      due(p.count(1), 4);
    });
    test("3, full", p -> {
      two(p);
      for (int x = 0; x < 8; x++) p.grace(3, x, 11);
      due(p.row(0), 8);
      due(p.build(0, 3, 0), FULL);
      due(p.build(0, 0, 0), STATE);
      p.coin(9);
      due(p.build(0, 3, 0), STATE);
      due(p.build(0, 3, -1), BEYOND);
    });
    test("3, above 99999", p -> {
      two(p);
      p.coin(99999);
      p.worth(3, 5, 99);
      due(p.build(1, 3, 5), 100095);
      due(p.count(2), 100095);
      due(p.coin(5), 100095);
    });
    test("4", p -> {
      int[] costs = {10, 3, 25, 4, 25, 10, 40};
      for (int kind = 0; kind < 7; kind++) {
        p.grace(kind, kind, 2);
        due(p.of(kind, 0), kind);
        due(p.of(kind, 1), kind);
        due(p.of(kind, 2), 2);
        due(p.of(kind, 3), costs[kind]);
      }
      // 0 with all but the ruin; huts with no hut and no ruin; the ruin with none
      due(p.of(0, 4), 0b1110110);
      due(p.of(1, 4), 0b1110101);
      due(p.of(3, 4), 0);
      due(p.of(7, 0), BEYOND);
      due(p.of(-1, 0), BEYOND);
      due(p.of(0, 5), BEYOND);
      due(p.of(0, -1), BEYOND);
    });
    test("4, inns", p -> {
      p.grace(2, 0, 0);
      p.grace(0, 8, 0);
      p.grace(0, 8, 1);
      p.grace(5, 4, 4);
      p.grace(5, 4, 5);
      p.grace(6, 0, 8);
      p.grace(4, 0, 7);
      // far from the inn's lot: 64; 65; 64; 81; 63; 50
      due(p.of(0, 4), 0b1101010);
      due(p.of(2, 4) & 1, 0);
    });
    test("4, an inn 64 from another counts, a church is a pace more", p -> {
      p.grace(2, 0, 0);
      p.grace(2, 8, 0);
      due(p.of(0, 4), 2);
      p.change(1, 4);
      due(p.of(0, 4), 0);
      due(p.of(1, 4), 0);
    });
    test("4, huts", p -> {
      p.grace(1, 0, 0);
      p.grace(1, 5, 5);
      p.grace(3, 7, 7);
      p.grace(6, 9, 9);
      due(p.of(0, 4), 8);
      due(p.of(3, 4), 3);
    });
    test("5", p -> {
      two(p);
      due(p.change(1, 5), 0);
      due(p.change(1, 5), 5);
      due(p.of(1, 0), 5);
      due(p.change(2, 0), BEYOND);
      due(p.change(-1, 0), BEYOND);
      due(p.change(0, 7), BEYOND);
      due(p.change(0, -1), BEYOND);
      due(p.of(0, 0), 0);
    });
    test("6", p -> {
      due(p.fire(), NONE);
      two(p);
      due(p.fire(), 40);
      due(p.of(1, 0), BEYOND);
      due(p.fire(), 38);
      due(p.fire(), NONE);
      due(p.count(1), 0);
    });
    test("7", p -> {
      due(p.worth(0, 0, 99), 0);
      due(p.worth(0, 0, 0), 99);
      due(p.worth(11, 11, 5), 0);
      due(p.worth(11, 11, 6), 5);
      due(p.worth(0, 0, 100), BEYOND);
      due(p.worth(0, 0, -1), BEYOND);
      due(p.worth(12, 0, 1), BEYOND);
      due(p.worth(0, -1, 1), BEYOND);
      due(p.count(4), 6);
    });
    test("8", p -> {
      due(p.coin(0), 100);
      due(p.coin(99999), 0);
      due(p.coin(100000), BEYOND);
      due(p.coin(-1), BEYOND);
      due(p.coin(1), 99999);
    });
    test("9", p -> {
      for (int kind = 0; kind < 7; kind++) p.grace(kind, 2 + kind / 4, kind % 4);
      due(p.far(0, 5, 4), 25);
      due(p.far(1, 2, 1), 0);
      due(p.far(2, 5, 6), 25);
      due(p.far(3, 2, 7), 16);
      due(p.far(4, 6, 4), 26);
      due(p.far(5, 0, 5), 49);
      due(p.far(6, 6, 6), 48);
      due(p.far(6, 3, 2), -1);
      due(p.far(0, 11, 11), 202);
      due(p.far(7, 0, 0), BEYOND);
      due(p.far(-1, 0, 0), BEYOND);
      due(p.far(0, 12, 0), BEYOND);
      due(p.far(0, 0, -1), BEYOND);
    });
  }

  private static void lots() {
    test("10", p -> {
      two(p);
      p.grace(0, 3, 2);
      p.grace(0, 3, 4);
      due(p.pairs(3, 3), 6);
      due(p.pairs(3, 5), 1);
      due(p.pairs(4, 4), 2);
      due(p.pairs(3, 4), 0);
      due(p.pairs(2, 4), 2);
      due(p.pairs(1, 4), 0);
      due(p.pairs(1, 3), 1);
      due(p.pairs(0, 1), 0);
      due(p.pairs(12, 0), BEYOND);
      due(p.pairs(0, -1), BEYOND);
    });
    test("11", p -> {
      due(p.pair(3, 3), NONE);
      p.grace(3, 0, 0);
      two(p);
      due(p.pair(3, 3), 12);
      p.grace(0, 3, 2);
      p.grace(0, 3, 4);
      due(p.pair(3, 3), 12);
      due(p.pair(0, 3), 34);
      due(p.pair(4, 4), 13);
      due(p.pair(3, 4), NONE);
      due(p.pair(1, 0), NONE);
      due(p.pair(-1, 0), BEYOND);
      due(p.pair(0, 12), BEYOND);
    });
    test("12", p -> {
      due(p.row(0), 0);
      two(p);
      due(p.row(0), 8);
      due(p.row(11), 8);
      p.grace(0, 3, 5);
      due(p.row(5), 0);
      due(p.row(12), BEYOND);
      due(p.row(-1), BEYOND);
    });
    test("13", p -> {
      two(p);
      due(p.lots(0), 12);
      due(p.lots(1), 12);
      due(p.lots(2), 142);
      due(p.lots(3), BEYOND);
      due(p.lots(-1), BEYOND);
      p.fire();
      due(p.lots(0), 0);
      due(p.lots(2), 0);
    });
    test("13, two ways to a lot", p -> {
      two(p);
      p.grace(0, 3, 2);
      p.grace(0, 3, 4);
      // beside (3, 3): 9 of x 3 and 9 of y 3 by one pair, 11 and 6 of the diagonals by two
      due(p.lots(0), 1 + 9 + 9 + 11 + 6);
      due(p.lots(1), 9 + 9);
    });
    test("14", p -> {
      two(p);
      due(p.only(0), 8);
      p.grace(0, 3, 2);
      p.grace(0, 3, 4);
      due(p.row(3), 0xFFF & ~4 & ~16);
      due(p.only(3), p.row(3) & ~8);
      due(p.only(4), 0);
      due(p.row(4), 0b10100);
      due(p.only(12), BEYOND);
      due(p.only(-1), BEYOND);
    });
    test("15", p -> {
      due(p.ever(0), 0);
      two(p);
      due(p.ever(3), 4075);
      due(p.ever(0), 4095);
      p.change(0, 3);
      due(p.ever(3), 0);
      due(p.ever(-1), BEYOND);
      due(p.ever(12), BEYOND);
      due(p.count(1), 2);
    });
    test("15, odd and even never meet", p -> {
      p.grace(0, 0, 0);
      p.grace(0, 1, 0);
      due(p.ever(0), 0);
      due(p.lots(2), 0);
      p.grace(0, 2, 0);
      due(p.row(0), 0);
      due(p.row(1), 2);
      due(p.ever(1) & 2, 2);
    });
    test("16", p -> {
      due(p.sum(), 0);
      two(p);
      p.worth(3, 3, 30);
      p.worth(3, 7, 9);
      p.worth(7, 7, 50);
      p.worth(2, 3, 60);
      due(p.sum(), 39);
      p.grace(3, 3, 3);
      due(p.sum(), 9);
    });
    test("17", p -> {
      due(p.best(), NONE);
      two(p);
      due(p.best(), 3);
      p.worth(7, 7, 50);
      p.worth(3, 7, 9);
      p.worth(3, 9, 9);
      due(p.best(), 87);
    });
  }

  private static void whoseHouse() {
    test("18", p -> {
      two(p);
      due(p.loses(0), 12);
      due(p.loses(1), 12);
      p.grace(0, 2, 8);
      p.grace(0, 4, 8);
      // x 3 is now twice free, and each pair of rows adds no lot between 5 and 6
      due(p.loses(0), 0);
      due(p.pairs(3, 1), 2);
      due(p.loses(4), BEYOND);
      due(p.loses(-1), BEYOND);
    });
    test("18, its own lot is not lost", p -> {
      two(p);
      p.grace(3, 3, 3);
      due(p.loses(2), 0);
      due(p.loses(0), 11);
    });
    test("19", p -> {
      two(p);
      p.worth(3, 3, 4);
      p.worth(3, 4, 5);
      p.worth(5, 5, 99);
      due(p.dear(0), 9);
      p.grace(3, 3, 3);
      due(p.dear(1), 5);
      due(p.dear(2), 0);
      due(p.dear(3), BEYOND);
      due(p.dear(-1), BEYOND);
    });
    test("20", p -> {
      due(p.dearest(), NONE);
      p.grace(3, 0, 0);
      due(p.dearest(), 0);
      two(p);
      due(p.dearest(), 0);
      p.worth(3, 3, 1);
      due(p.dearest(), 1);
      p.fire();
      due(p.dearest(), 0);
    });
    test("21", p -> {
      due(p.keepers(0, 0), NONE);
      two(p);
      due(p.keepers(3, 3), 3);
      p.grace(0, 3, 4);
      due(p.keepers(3, 3), 0);
      due(p.keepers(3, 0), 3);
      p.grace(3, 9, 9);
      due(p.keepers(9, 9), NONE);
      due(p.keepers(2, 3), NONE);
      due(p.keepers(12, 0), BEYOND);
      due(p.keepers(0, 12), BEYOND);
    });
    test("21, one in both pairs", p -> {
      p.grace(5, 0, 0);
      p.grace(1, 0, 2);
      p.grace(1, 2, 2);
      // of (1, 1) the streeted one is 4 away, the huts 2: but they are no pair
      due(p.pairs(1, 1), 0);
      p.change(0, 0);
      due(p.pairs(1, 1), 2);
      due(p.keepers(1, 1), 1);
    });
    test("22", p -> {
      two(p);
      due(p.kindFor(0), 0);
      due(p.of(0, 0), 0);
      p.change(0, 3);
      due(p.kindFor(0), 0);
      due(p.kindFor(1), 0);
      due(p.of(0, 0), 3);
      due(p.kindFor(2), BEYOND);
      due(p.kindFor(-1), BEYOND);
    });
    test("22, another kind than 0", p -> {
      p.grace(5, 2, 2);
      p.grace(0, 5, 7);
      int best = 0;
      int most = -1;
      for (int kind = 0; kind < 7; kind++) {
        p.change(1, kind);
        if (p.lots(0) > most) {
          most = p.lots(0);
          best = kind;
        }
      }
      due(best, 5);
      due(p.kindFor(1), 5);
      due(p.of(1, 0), 6);
    });
    test("23", p -> {
      due(p.law(), 0);
      two(p);
      due(p.law(), 0);
      due(p.fire(), 40);
      p.grace(0, 4, 5);
      // streets apart: whole corners of the plain are as far from both
      due(p.law(), 5);
      due(p.of(0, 0), 0);
    });
  }

  private static void hutsAndOpenings() {
    test("24", p -> {
      due(p.huts(0, 0), NONE);
      two(p);
      due(p.huts(3, 9), 0);
      due(p.huts(4, 4), 1);
      due(p.huts(2, 3), STATE);
      due(p.huts(12, 3), BEYOND);
      due(p.huts(3, -1), BEYOND);
      due(p.count(1), 2);
    });
    test("25", p -> {
      due(p.hut(0, 0, 0), NONE);
      two(p);
      due(p.hut(3, 9, 0), NONE);
      // (2, 3) is 5 from (4, 4): so is (3, 2)
      due(p.hut(4, 4, 0), 27);
      due(p.hut(4, 4, 1), NONE);
      due(p.hut(2, 3, 0), STATE);
      due(p.hut(2, 3, 2), BEYOND);
      due(p.hut(2, 3, -1), BEYOND);
      due(p.hut(2, 12, 0), BEYOND);
    });
    test("24, 25: two are needed", p -> {
      p.grace(0, 0, 0);
      p.grace(0, 2, 0);
      int seen = 0;
      for (int lot = 1; lot < 144; lot++) {
        int x = lot % 12;
        int y = lot / 12;
        if (p.huts(x, y) == 2) {
          seen++;
          int first = p.hut(x, y, 0);
          int second = p.hut(x, y, 1);
          due(p.build(0, first % 12, first / 12) >= 0 ? 1 : 0, 1);
          due(p.pairs(x, y), 0);
          due(p.build(0, second % 12, second / 12) >= 0 ? 1 : 0, 1);
          due(p.pairs(x, y) > 0 ? 1 : 0, 1);
          p.fire();
          p.fire();
          p.coin(1000);
        }
        if (seen == 5) break;
      }
      due(seen, 5);
    });
    test("24, COIN and 10 are not asked", p -> {
      p.coin(0);
      two(p);
      for (int x = 0; x < 8; x++) p.grace(3, x, 11);
      due(p.huts(4, 4), 1);
      due(p.hut(4, 4, 0), 27);
    });
    test("26", p -> {
      due(p.opens(0), NONE);
      due(p.opens(7), BEYOND);
      due(p.opens(-1), BEYOND);
      two(p);
      p.coin(0);
      due(p.opens(3), 3);
      due(p.opened(3), 11);
      int lot = p.opens(0);
      int most = p.opened(0);
      for (int y = 0; y < 12; y++) {
        p.grace(0, 3, y);
        due(p.lots(0) < most || p.lots(0) == most && 12 * y + 3 >= lot ? 1 : 0, 1);
        if (12 * y + 3 == lot) due(p.lots(0), most);
        p.fire();
      }
      for (int x = 0; x < 8; x++) p.grace(3, x, 11);
      due(p.opens(0), FULL);
      due(p.opens(7), BEYOND);
    });
    test("26, 27: none free goes before ten houses", p -> {
      tenRuins(p);
      due(p.opens(0), NONE);
      due(p.opened(0), NONE);
    });
    test("27", p -> {
      due(p.opened(0), NONE);
      due(p.opened(7), BEYOND);
      two(p);
      due(p.opened(3), 11);
      for (int x = 0; x < 8; x++) p.grace(3, x, 11);
      due(p.opened(0), FULL);
      due(p.opened(-1), BEYOND);
    });
  }

  private static void village() {
    test("28", p -> {
      due(p.orders(), 1);
      p.grace(3, 2, 3);
      due(p.orders(), 1);
      p.grace(3, 4, 3);
      due(p.orders(), 2);
      p.grace(0, 3, 3);
      due(p.orders(), 0);
      p.change(0, 0);
      p.change(1, 0);
      due(p.orders(), 2);
      p.grace(0, 3, 7);
      due(p.orders(), 4);
    });
    test("28, all orders", p -> {
      // on a line of x 3 and beside it each is free by some two of the others
      two(p);
      p.grace(0, 3, 2);
      p.grace(0, 3, 4);
      due(p.orders(), 2 * 2 + 2 * 2);
    });
    test("29", p -> {
      due(p.founders(0), BEYOND);
      p.grace(0, 2, 3);
      due(p.founders(0), 1);
      p.grace(0, 4, 3);
      due(p.founders(0), 2);
      due(p.founders(1), 2);
      p.grace(0, 3, 2);
      p.grace(0, 3, 4);
      due(p.founders(0), 4);
      due(p.founders(1), 4);
      due(p.founders(2), 4);
      due(p.founders(3), 4);
      p.grace(0, 3, 3);
      due(p.founders(4), founderOfFive(p, 4));
      due(p.founders(5), BEYOND);
      due(p.founders(-1), BEYOND);
    });
    test("30", p -> {
      due(p.latest(), NONE);
      p.grace(3, 2, 3);
      due(p.latest(), 0);
      p.grace(3, 4, 3);
      due(p.latest(), 1);
      p.grace(0, 3, 3);
      due(p.latest(), NONE);
      p.change(0, 0);
      p.change(1, 0);
      due(p.latest(), 2);
    });
    test("30, not the last by number", p -> {
      p.grace(0, 3, 3);
      two(p);
      due(p.orders(), 2);
      due(p.latest(), 0);
    });
  }

  /** All orders of five houses, one by one, in which one is among the first two. */
  private static int founderOfFive(EqualPlain p, int house) {
    int found = 0;
    int[] at = new int[5];
    for (int code = 0; code < 3125; code++) {
      int set = 0;
      for (int i = 0, rest = code; i < 5; i++, rest /= 5) {
        at[i] = rest % 5;
        set |= 1 << at[i];
      }
      if (set == 31 && (at[0] == house || at[1] == house) && canBeBuilt(p, at)) found++;
    }
    return found;
  }

  private static boolean canBeBuilt(EqualPlain p, int[] order) {
    for (int i = 2; i < order.length; i++) {
      boolean free = false;
      int x = xOf(order[i]);
      int y = yOf(order[i]);
      for (int a = 0; a < i; a++) {
        for (int b = 0; b < a; b++) {
          free |= square(xOf(order[a]) - x) + square(yOf(order[a]) - y)
              == square(xOf(order[b]) - x) + square(yOf(order[b]) - y);
        }
      }
      if (!free) return false;
    }
    return true;
  }

  private static int xOf(int house) {
    return new int[] {2, 4, 3, 3, 3}[house];
  }

  private static int yOf(int house) {
    return new int[] {3, 3, 2, 4, 3}[house];
  }

  private static int square(int v) {
    return v * v;
  }

  private static void years() {
    test("31", p -> {
      due(p.years(0), BEYOND);
      due(p.years(61), BEYOND);
      due(p.years(60), 0);
      due(p.count(0), 60);
      int z = 1;
      for (int i = 0; i < 180; i++) z = z * 1103515245 + 12345;
      due(p.count(6), z);
      toYear(p, 9999);
      due(p.count(0), 9999);
      due(p.years(1), STATE);
      due(p.years(61), BEYOND);
      due(p.count(0), 9999);
    });
    test("31, one is built", p -> {
      two(p);
      p.worth(3, 4, 50);
      // found by trying: with this seed the first year's lot is (3, 4)
      int seed = seedFor(3, 4, 1);
      p.seed(seed);
      due(p.years(1), 1);
      due(p.of(2, 0), 1);
      due(p.of(2, 1), 3);
      due(p.of(2, 2), 4);
      due(p.count(2), 147);
    });
    test("31, none without the coin", p -> {
      two(p);
      p.coin(2);
      p.seed(seedFor(3, 4, 1));
      due(p.years(1), 0);
      due(p.count(0), 1);
      p.coin(3);
      p.seed(seedFor(3, 4, 1));
      due(p.years(1), 1);
      due(p.count(2), 0);
    });
    test("31, none with ten houses", p -> {
      two(p);
      for (int x = 0; x < 8; x++) p.grace(3, x, 11);
      p.seed(seedFor(3, 4, 1));
      due(p.years(1), 0);
      due(p.count(1), 10);
    });
    test("32", p -> {
      two(p);
      p.seed(seedFor(3, 4, 1));
      int z = p.count(6);
      due(p.ahead(0, 0), 2);
      due(p.ahead(0, 1), 100);
      due(p.ahead(0, 2), 12);
      due(p.ahead(1, 0), 3);
      due(p.ahead(1, 1), 97);
      due(p.ahead(1, 2) > 12 ? 1 : 0, 1);
      due(p.count(6), z);
      due(p.count(0), 0);
      due(p.count(1), 2);
      due(p.ahead(61, 0), BEYOND);
      due(p.ahead(-1, 0), BEYOND);
      due(p.ahead(0, 3), BEYOND);
      due(p.ahead(0, -1), BEYOND);
      int coin = p.ahead(60, 1);
      int houses = p.ahead(60, 0);
      int free = p.ahead(60, 2);
      p.years(60);
      due(p.count(2), coin);
      due(p.count(1), houses);
      due(p.lots(0), free);
    });
    test("32, the last years", p -> {
      toYear(p, 9990);
      due(p.ahead(9, 0), 0);
      due(p.ahead(10, 0), STATE);
      due(p.ahead(10, 3), BEYOND);
      toYear(p, 9999);
      due(p.ahead(0, 0), 0);
      due(p.ahead(1, 0), STATE);
    });
    test("33", p -> {
      due(p.when(), NONE);
      two(p);
      p.coin(99999);
      p.seed(seedFor(3, 4, 1));
      due(p.when(), 1);
      due(p.count(0), 0);
      due(p.count(1), 2);
      p.seed(77);
      int n = p.when();
      due(p.ahead(n - 1, 0), 2);
      due(p.ahead(n, 0), 3);
    });
    test("33, 99 years and 100", p -> {
      two(p);
      p.seed(47413);
      due(p.when(), 99);
      due(p.ahead(60, 0), 2);
      p.years(60);
      due(p.years(38), 0);
      due(p.years(1), 1);
      p.fire();
      p.seed(36881);
      due(p.when(), NONE);
      due(p.years(60), 0);
      due(p.years(39), 0);
      due(p.years(1), 1);
    });
    test("33, the last years", p -> {
      toYear(p, 9900);
      due(p.when(), NONE);
      p.years(1);
      due(p.when(), STATE);
      two(p);
      due(p.when(), STATE);
    });
    test("34", p -> {
      due(p.strew(0), BEYOND);
      due(p.strew(13), BEYOND);
      due(p.strew(1), STATE);
      due(p.strew(12), STATE);
      two(p);
      int z = 1;
      int[] at = {38, 40};
      for (int i = 0; i < 12; i++) {
        z = z * 1103515245 + 12345;
        int house = (z >>> 8) % 2;
        z = z * 1103515245 + 12345;
        int lot = (z >>> 8) % 144;
        if (lot != at[1 - house]) at[house] = lot;
      }
      int free = p.strew(12);
      due(p.count(6), z);
      due(p.of(0, 1) + 12 * p.of(0, 2), at[0]);
      due(p.of(1, 1) + 12 * p.of(1, 2), at[1]);
      due(p.lots(0), free);
      due(p.count(0), 0);
    });
    test("35", p -> {
      due(p.seed(MIN), 1);
      due(p.seed(-1000001), MIN);
      due(p.seed(0), -1000001);
      due(p.status(-1), 0);
      due(p.count(6), 0);
    });
  }

  /** A seed whose first three draws are x by 12, y by 12, kind by 7. */
  private static int seedFor(int x, int y, int kind) {
    for (int seed = 0; ; seed++) {
      int a = seed * 1103515245 + 12345;
      int b = a * 1103515245 + 12345;
      int c = b * 1103515245 + 12345;
      if ((a >>> 8) % 12 == x && (b >>> 8) % 12 == y && (c >>> 8) % 7 == kind) return seed;
    }
  }

  private static void texts() {
    test("36", p -> {
      due(p.feed(0, 0), BEYOND);
      due(p.feed(0, 5), BEYOND);
      due(p.feed(0, MIN), BEYOND);
      due(p.feed(0, MAX), BEYOND);
      due(p.feed('c' << 8 | 'o', 2), 2);
      due(p.feed('x' << 24 | 'i' << 16 | 'n' << 8 | ' ', 3), 5);
      due(p.feed('7', 1), 6);
      due(p.text(), 1);
      due(p.count(2), 7);
      for (int i = 1; i < 30; i++) due(p.feed(-1, 4), 4 * i);
      due(p.feed(0, 3), 119);
      due(p.feed(0, 2), FULL);
      due(p.feed(0, 5), BEYOND);
      due(p.count(5), 119);
      due(p.feed(0, 1), 120);
      due(p.feed(0, 1), FULL);
    });
    test("37", p -> {
      due(p.wipe(), 0);
      p.feed(1, 4);
      p.feed(1, 3);
      due(p.wipe(), 7);
      due(p.wipe(), 0);
      due(p.text(), -1);
    });
    test("38", p -> {
      due(read(p, "house at 2 3 ; tower at 4 3;worth 30 on 3 3;coin 99999"), 4);
      due(p.of(0, 0), 0);
      due(p.of(1, 0), 6);
      due(p.of(1, 1), 4);
      due(p.count(2), 99999);
      due(p.worth(3, 3, 30), 30);
      due(p.count(5), 0);
      due(p.status(-1), 0);
      due(read(p, "hut at 0 0;inn at 1 0;ruin at 2 0;church at 3 0;streeted at 4 0"), 5);
      for (int house = 2; house < 7; house++) due(p.of(house, 0), house == 6 ? 5 : house == 5 ? 4 : house == 4 ? 3 : house - 1);
      due(read(p, "worth 1 on 0 0;worth 2 on 0 0;coin 5;coin 6"), 4);
      due(p.worth(0, 0, 0), 2);
      due(p.coin(0), 6);
    });
    test("38, blanks and noughts", p -> {
      due(read(p, "  coin   00000000000000000000012 "), 1);
      due(p.count(2), 12);
      due(read(p, "hut at0 011;worth9on 1 2"), 2);
      due(p.of(0, 2), 11);
      due(p.worth(1, 2, 0), 9);
    });
    test("38, faults", p -> {
      due(read(p, ""), -1);
      due(read(p, "   "), -4);
      due(read(p, " ;"), -2);
      due(read(p, "coin 3;"), -8);
      due(read(p, "coin 3; "), -9);
      due(read(p, "coin 3;;"), -8);
      due(read(p, "coin 3 4"), -8);
      due(read(p, "coin 100000"), -6);
      due(read(p, "coin 99999999999999999999999"), -6);
      due(read(p, "coin 4294967296"), -6);
      due(read(p, "coins 3"), -1);
      due(read(p, "coinz 3"), -1);
      due(read(p, "Coin 3"), -1);
      due(read(p, "coin-3"), -5);
      due(read(p, "coin 3\n"), -7);
      due(read(p, "coin\t3"), -5);
      due(read(p, "houseat 1 1"), -1);
      due(read(p, "house on 1 1"), -7);
      due(read(p, "house at 12 1"), -10);
      due(read(p, "house at 11 12"), -13);
      due(read(p, "house at 1 x"), -12);
      due(read(p, "house at 1,1"), -11);
      due(read(p, "house at 1"), -11);
      due(read(p, "house at 1 1 ; hut at 1 1"), -25);
      due(read(p, "worth 100 on 1 1"), -7);
      due(read(p, "worth 9 at 1 1"), -9);
      due(read(p, "worth 9 on 12 1"), -12);
      due(read(p, "worth 9 on 1 12"), -14);
      due(read(p, "coin 5;house at 0 0;worth 3 on 0 0;at"), -36);
      due(read(p, "at 0 0"), -1);
      due(read(p, "\u00e9"), -1);
      due(p.count(1), 0);
      due(p.count(2), 100);
      due(p.count(4), 0);
      due(p.count(5), 0);
      due(p.status(-1), 0);
    });
    test("38, an eleventh house", p -> {
      for (int x = 0; x < 9; x++) p.grace(3, x, 0);
      due(read(p, "hut at 0 5;coin 1;hut at 0 0"), -19);
      due(p.count(1), 9);
      due(p.count(2), 100);
      due(read(p, "hut at 8 0"), -10);
      due(read(p, "hut at 0 5;coin 1"), 2);
      due(read(p, "coin 2;shed"), -8);
      due(read(p, "coin 2;hut"), -8);
      due(p.count(2), 1);
    });
  }

  private static void spotsAndSheets() {
    test("39", p -> {
      due(p.hold(0, 0), BEYOND);
      due(p.hold(0, -1), 1);
      two(p);
      due(p.hold(0, 1), 1);
      due(p.hold(9, 0), 1);
      due(p.hold(10, 0), BEYOND);
      due(p.hold(-1, 0), BEYOND);
      due(p.hold(0, 2), BEYOND);
      due(p.hold(0, -2), BEYOND);
      due(p.count(7), 2);
      due(p.as(0, 0), 1);
      due(p.hold(0, -1), 1);
      due(p.count(7), 1);
      due(p.as(0, 0), MISSING);
    });
    test("40", p -> {
      int[] above = {-1, 0, 0, 1, 2, 0, 5};
      p.grace(0, 0, 0);
      p.hold(3, 0);
      for (int kind = 0; kind < 7; kind++) {
        p.change(0, kind);
        for (int as = 0; as < 7; as++) {
          boolean under = as == kind || as == 0 || as == above[kind];
          due(p.as(3, as), under ? 0 : KIND);
        }
      }
      due(p.as(3, 7), BEYOND);
      due(p.as(3, -1), BEYOND);
      due(p.as(10, 0), BEYOND);
      due(p.as(-1, 0), BEYOND);
      due(p.as(2, 0), MISSING);
      p.fire();
      due(p.as(3, 0), MISSING);
      due(p.as(3, 7), BEYOND);
      due(p.count(7), 1);
    });
    test("41", p -> {
      due(p.sheet(4, 8, 1), BEYOND);
      due(p.sheet(-1, 8, 1), BEYOND);
      due(p.sheet(0, 7, -1), BEYOND);
      due(p.sheet(0, 64, 1), BEYOND);
      due(p.sheet(0, -8, 1), BEYOND);
      due(p.sheet(0, 8, -1), SIZE);
      due(p.sheet(0, 0, -1), SIZE);
      due(p.sheet(0, 0, MIN), SIZE);
      due(p.sheet(0, 8, 41), BEYOND);
      due(p.sheet(0, 0, 41), BEYOND);
      due(p.sheet(0, 0, MAX), BEYOND);
      due(p.load(0), MISSING);
      due(p.sheet(0, 8, 40), 40);
      due(p.sheet(3, 32, 0), 0);
      due(p.load(3), 0);
      due(p.load(0), 40);
      due(p.sheet(0, 0, 40), 0);
      due(p.load(0), MISSING);
      due(p.sheet(1, 16, 2), 2);
      p.write(1, 0, 50);
      due(p.sheet(1, 16, 2), 2);
      due(p.load(1), 2);
      due(p.count(4), 0);
    });
    test("42", p -> {
      due(p.write(0, 0, 0), MISSING);
      due(p.write(0, -1, 0), MISSING);
      due(p.write(4, 0, 0), BEYOND);
      due(p.write(-1, 0, 0), BEYOND);
      p.sheet(0, 8, 2);
      p.sheet(1, 16, 2);
      p.sheet(2, 32, 2);
      due(p.write(0, 2, 0), BEYOND);
      due(p.write(0, -1, 0), BEYOND);
      due(p.write(0, MAX, 0), BEYOND);
      due(p.write(0, 1, 255), 1);
      due(p.load(0), 1);
      due(p.write(0, 1, 256 + 99), 1);
      due(p.load(0), 2);
      due(p.worth(1, 0, 0), 99);
      due(p.write(1, 1, 65535), 1);
      due(p.load(1), 1);
      due(p.write(1, 1, 0x70000 + 98), 1);
      due(p.load(1), 2);
      due(p.worth(1, 0, 0), 98);
      due(p.write(1, 1, 256), 1);
      due(p.load(1), 1);
      due(p.write(2, 1, 0x70000 + 98), 1);
      due(p.load(2), 1);
      due(p.write(2, 0, 97), 1);
      due(p.load(2), 1);
      due(p.worth(0, 0, 0), 97);
    });
    test("43", p -> {
      due(p.copy(0, 0, 4, 0, 0), BEYOND);
      due(p.copy(-1, 0, 0, 0, 0), BEYOND);
      due(p.copy(0, -1, 1, 0, 0), MISSING);
      p.sheet(0, 8, 4);
      due(p.copy(0, -1, 1, 0, 0), MISSING);
      due(p.copy(1, -1, 0, 0, 0), MISSING);
      p.sheet(1, 16, 4);
      due(p.copy(0, -1, 1, 0, 0), KIND);
      p.sheet(1, 8, 3);
      due(p.copy(0, -1, 1, 0, 1), BEYOND);
      due(p.copy(0, 0, 1, -1, 1), BEYOND);
      due(p.copy(0, 0, 1, 0, -1), BEYOND);
      due(p.copy(0, 0, 1, 0, 4), BEYOND);
      due(p.copy(1, 0, 0, 0, 4), BEYOND);
      due(p.copy(0, 2, 1, 0, 3), BEYOND);
      due(p.copy(0, 0, 1, 2, 2), BEYOND);
      due(p.copy(0, MAX, 1, 0, MAX), BEYOND);
      due(p.copy(0, 1, 1, 1, MAX), BEYOND);
      due(p.copy(0, 4, 1, 3, 0), 0);
      due(p.copy(0, 5, 1, 3, 0), BEYOND);
      for (int i = 0; i < 4; i++) p.write(0, i, 10 + i);
      due(p.copy(0, 1, 1, 0, 3), 3);
      p.load(1);
      due(p.worth(0, 0, 0) * 10000 + p.worth(1, 0, 0) * 100 + p.worth(2, 0, 0), 111213);
      due(p.copy(0, 0, 0, 1, 3), 3);
      p.load(0);
      due(p.worth(1, 0, 0) * 10000 + p.worth(2, 0, 0) * 100 + p.worth(3, 0, 0), 101112);
      due(p.copy(0, 1, 0, 0, 3), 3);
      p.load(0);
      due(p.worth(0, 0, 0) * 10000 + p.worth(1, 0, 0) * 100 + p.worth(2, 0, 0), 101112);
    });
    test("44", p -> {
      due(p.load(4), BEYOND);
      due(p.load(-1), BEYOND);
      due(p.load(0), MISSING);
      p.sheet(0, 8, 40);
      for (int i = 0; i < 40; i++) p.write(0, i, 60 + i);
      due(p.load(0), 40);
      due(p.worth(3, 3, 0), 99);
      due(p.worth(4, 3, 0), 0);
      p.write(0, 20, 100);
      p.write(0, 0, 1);
      p.write(0, 21, 2);
      due(p.load(0), 20);
      due(p.worth(0, 0, 0), 1);
      due(p.worth(9, 1, 0), 81);
    });
    test("45", p -> {
      due(p.judge(4), BEYOND);
      due(p.judge(-1), BEYOND);
      due(p.judge(0), MISSING);
      two(p);
      p.sheet(0, 16, 3);
      p.write(0, 0, 39);
      p.write(0, 1, 50);
      p.write(0, 2, 27);
      // (3, 3); then (2, 4), as far from (2, 3) as from none before; then (3, 2)
      due(p.judge(0), 2);
      p.write(0, 1, 27);
      p.write(0, 2, 39);
      due(p.judge(0), 3);
      p.write(0, 2, 26);
      due(p.judge(0), 0);
      p.write(0, 2, 144);
      due(p.judge(0), 3);
      p.write(0, 2, -1);
      due(p.judge(0), 3);
      due(p.count(1), 2);
      due(p.count(2), 100);
      p.sheet(1, 32, 8);
      due(p.judge(1), 1);
      p.write(1, 0, Integer.MAX_VALUE);
      due(p.judge(1), 1);
      p.sheet(1, 32, 9);
      due(p.judge(1), SIZE);
      p.sheet(1, 32, 0);
      due(p.judge(1), 0);
    });
    test("45, no lot, though as far from both", p -> {
      p.grace(0, 1, 10);
      p.grace(0, 2, 11);
      p.grace(0, 0, 2);
      p.grace(0, 1, 1);
      p.sheet(0, 16, 1);
      p.write(0, 0, 144);
      due(p.judge(0), 1);
      p.write(0, 0, -1);
      due(p.judge(0), 1);
    });
  }

  private static void images() {
    test("46", p -> {
      two(p);
      p.coin(55);
      p.worth(1, 1, 9);
      p.hold(2, 1);
      p.years(3);
      p.seed(1234);
      due(p.image(), 1);
      int houses = p.count(1);
      p.fire();
      p.change(0, 6);
      p.coin(1);
      p.worth(1, 1, 0);
      p.hold(2, -1);
      p.years(5);
      p.feed(0, 4);
      p.sheet(0, 8, 7);
      due(p.undo(), 3);
      due(p.count(0), 3);
      due(p.count(1), houses);
      due(p.of(0, 0), 0);
      due(p.count(2), 55);
      due(p.worth(1, 1, 9), 9);
      due(p.as(2, 0), 1);
      due(p.count(6), 1234);
      due(p.count(5), 4);
      due(p.load(0), 7);
    });
    test("47", p -> {
      due(p.undo(), NONE);
      p.image();
      p.years(7);
      p.image();
      p.years(7);
      due(p.undo(), 7);
      p.years(2);
      due(p.count(0), 9);
      due(p.undo(), 7);
      due(p.tear(), 1);
      due(p.undo(), NONE);
      due(p.count(0), 7);
      due(p.status(3), 2);
    });
    test("48", p -> {
      due(p.tear(), 0);
      p.image();
      due(p.tear(), 1);
      due(p.tear(), 0);
      due(p.undo(), NONE);
    });
    test("49", p -> {
      p.years(2);
      two(p);
      p.grace(3, 0, 0);
      p.grace(1, 9, 9);
      p.coin(12);
      p.worth(2, 2, 3);
      p.worth(2, 3, 4);
      p.feed(0, 3);
      p.seed(-1000005);
      p.hold(1, 3);
      p.hold(5, 3);
      int[] want = {2, 4, 12, 3, 7, 3, -1000005, 2};
      for (int what = 0; what < 8; what++) due(p.count(what), want[what]);
      due(p.status(-1), 0);
      due(p.count(8), BEYOND);
      due(p.count(-1), BEYOND);
      p.fire();
      due(p.count(7), 2);
      due(p.count(3), 1);
    });
    test("50", p -> {
      p.grace(7, 0, 0);
      tenRuins(p);
      p.grace(0, 0, 11);
      p.hold(0, 0);
      p.as(0, 2);
      p.best();
      p.as(1, 0);
      p.sheet(0, 8, -1);
      p.image();
      // BEYOND, FULL, KIND, NONE, STATE, MISSING, SIZE
      int[] want = {1, 0, 1, 1, 1, 1, 1};
      for (int which = 0; which < 7; which++) due(p.status(which), want[which]);
      due(p.status(-1), 6);
      p.grace(0, 0, 11);
      p.undo();
      due(p.status(4), 2);
      due(p.status(7), BEYOND);
      due(p.status(-2), BEYOND);
      due(p.status(0), 3);
      due(p.grace(0, 5, 5), FULL);
      due(p.status(1), 1);
      due(p.status(-1), 10);
      read(p, "shed");
      due(p.status(-1), 10);
    });
  }
}
