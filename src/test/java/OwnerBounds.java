/** The boundary cases of promises 18 to 23: whose house. */
final class OwnerBounds {
  private OwnerBounds() {
  }

  static void run() {
    loses();
    dear();
    dearest();
    keepers();
    kindFor();
    law();
  }

  private static void loses() {
    Bounds.test(18, "HOUSE 0 and the 10th are taken", p -> {
      Bounds.twoAndRuins(p, 7);
      p.grace(0, 4, 5);
      // beside x 3: row 4 for houses 1 and 9, and what is even for 0 and 9
      Bounds.due(p.pairs(0, 4), 1);
      Bounds.due(p.loses(9) > 0 ? 1 : 0, 1);
      Bounds.due(p.loses(0) > 0 ? 1 : 0, 1);
      Bounds.due(p.loses(2), 0);
      int lost = p.loses(9);
      int free = p.lots(0);
      p.fire();
      // its own lot was not free, and isn't now
      Bounds.due(p.pairs(4, 5), 0);
      Bounds.due(free - p.lots(0), lost);
    });
    Bounds.test(18, "not those that are FREE by another PAIR too", p -> {
      Bounds.two(p);
      p.grace(0, 2, 8);
      p.grace(0, 4, 8);
      Bounds.due(p.pairs(3, 0), 2);
      Bounds.due(p.loses(0), 0);
      p.change(3, 3);
      Bounds.due(p.loses(0), 12);
      Bounds.due(p.loses(2), 0);
    });
    Bounds.test(18, "its own LOT isn't FREE, so it isn't lost", p -> {
      Bounds.two(p);
      p.grace(0, 3, 0);
      Bounds.due(p.pairs(3, 0), 0);
      p.change(2, 3);
      Bounds.due(p.loses(2), 0);
      Bounds.due(p.loses(0), 11);
    });
    Bounds.test(18, "LOT 0 and LOT 143 can be lost", p -> {
      p.grace(0, 0, 1);
      p.grace(0, 1, 0);
      Bounds.due(p.loses(0), 12);
      Bounds.due(p.loses(1), 12);
    });
    Bounds.test(18, "0 of one alone", p -> {
      p.grace(0, 5, 5);
      Bounds.due(p.loses(0), 0);
    });
    Bounds.refused(18, "BEYOND: no such HOUSE", Bounds.BEYOND, Bounds::filled,
        p -> p.loses(-1), p -> p.loses(4), p -> p.loses(10), p -> p.loses(Bounds.MIN), p -> p.loses(Bounds.MAX));
    Bounds.refused(18, "BEYOND: no HOUSES", Bounds.BEYOND, p -> { }, p -> p.loses(0));
    Bounds.quiet(18, "nothing changes", Bounds::filled, p -> p.loses(0), p -> p.loses(3));
  }

  private static void dear() {
    Bounds.test(19, "0 where nothing is lost, or all that is lost has no WORTH", p -> {
      Bounds.two(p);
      p.worth(5, 5, 99);
      p.worth(2, 3, 99);
      Bounds.due(p.loses(0), 12);
      Bounds.due(p.dear(0), 0);
      p.grace(3, 0, 0);
      Bounds.due(p.dear(2), 0);
    });
    Bounds.test(19, "WORTH of the first and of the last LOT together", p -> {
      p.grace(0, 0, 1);
      p.grace(0, 1, 0);
      p.worth(0, 0, 99);
      p.worth(11, 11, 98);
      p.worth(1, 1, 1);
      Bounds.due(p.dear(0), 198);
      Bounds.due(p.dear(1), 198);
      p.grace(0, 5, 6);
      p.grace(0, 6, 5);
      Bounds.due(p.dear(0), 0);
    });
    Bounds.test(19, "of the 10th HOUSE", p -> {
      Bounds.twoAndRuins(p, 7);
      p.change(1, 3);
      p.grace(0, 4, 5);
      p.worth(4, 3, 9);
      for (int lot = 0; lot < 132; lot++) p.worth(lot % 12, lot / 12, 1);
      Bounds.due(p.dear(9), p.lots(0) - Integer.bitCount(p.row(11)));
      Bounds.due(p.dear(9) > 0 ? 1 : 0, 1);
    });
    Bounds.refused(19, "BEYOND: no such HOUSE", Bounds.BEYOND, Bounds::filled,
        p -> p.dear(-1), p -> p.dear(4), p -> p.dear(10), p -> p.dear(Bounds.MIN), p -> p.dear(Bounds.MAX));
    Bounds.refused(19, "BEYOND: no HOUSES", Bounds.BEYOND, p -> { }, p -> p.dear(0));
    Bounds.quiet(19, "nothing changes", Bounds::filled, p -> p.dear(0), p -> p.dear(3));
  }

  private static void dearest() {
    Bounds.refused(20, "NONE: there are none", Bounds.NONE, p -> p.worth(3, 3, 9), p -> p.dearest());
    Bounds.test(20, "of one it is that one", p -> {
      p.grace(3, 5, 5);
      Bounds.due(p.dearest(), 0);
    });
    Bounds.test(20, "of several the least number", p -> {
      Bounds.tenRuins(p);
      Bounds.due(p.dearest(), 0);
      p.change(4, 0);
      p.change(6, 0);
      p.worth(5, 0, 1);
      Bounds.due(p.dear(4), 1);
      Bounds.due(p.dear(6), 1);
      Bounds.due(p.dearest(), 4);
    });
    Bounds.test(20, "the 10th", p -> {
      Bounds.twoAndRuins(p, 7);
      p.grace(0, 4, 5);
      // (0, 4) is free by houses 1 and 9, (3, 0) by 0 and 1, what is even for 0 and 9 has no worth but (2, 5)
      p.worth(0, 4, 5);
      p.worth(3, 0, 4);
      Bounds.due(p.dearest(), 1);
      int lot = -1;
      for (int at = 0; at < 132; at++) {
        if (p.pair(at % 12, at / 12) == 9 && p.pairs(at % 12, at / 12) == 1) lot = at;
      }
      p.worth(lot % 12, lot / 12, 6);
      Bounds.due(p.dearest(), 9);
    });
    Bounds.quiet(20, "nothing changes", Bounds::filled, p -> p.dearest());
  }

  private static void keepers() {
    Bounds.test(21, "by one PAIR: both; the first and the last number", p -> {
      Bounds.circle(p);
      for (int house = 1; house < 9; house++) p.change(house, 3);
      Bounds.due(p.keepers(5, 5), 0b1000000001);
    });
    Bounds.test(21, "one that is in each PAIR", p -> {
      p.grace(1, 5, 2);
      p.grace(0, 5, 8);
      p.grace(1, 2, 5);
      Bounds.due(p.pairs(5, 5), 2);
      Bounds.due(p.keepers(5, 5), 2);
    });
    Bounds.test(21, "none: by two PAIRS that share nobody; by three of three", p -> {
      Bounds.two(p);
      p.grace(0, 2, 8);
      p.grace(0, 4, 8);
      Bounds.due(p.keepers(3, 0), 0);
      p.fire();
      p.fire();
      p.grace(0, 3, 4);
      Bounds.due(p.pairs(3, 3), 3);
      Bounds.due(p.keepers(3, 3), 0);
    });
    Bounds.test(21, "the corners", p -> {
      p.grace(0, 0, 1);
      p.grace(0, 1, 0);
      Bounds.due(p.keepers(0, 0), 3);
      Bounds.due(p.keepers(11, 11), 3);
    });
    Bounds.refused(21, "NONE: it isn't FREE", Bounds.NONE, Bounds::filled, p -> p.keepers(4, 4));
    Bounds.refused(21, "NONE: it isn't FREE, for one stands there", Bounds.NONE, p -> {
      Bounds.filled(p);
      p.grace(3, 3, 4);
    }, p -> p.keepers(3, 4), p -> p.keepers(2, 3));
    Bounds.refused(21, "NONE: no HOUSES", Bounds.NONE, p -> { }, p -> p.keepers(0, 0));
    Bounds.refused(21, "BEYOND: x below 0", Bounds.BEYOND, Bounds::filled, p -> p.keepers(-1, 4), p -> p.keepers(-9, 4), p -> p.keepers(Bounds.MIN, 4));
    Bounds.refused(21, "BEYOND: x above 11", Bounds.BEYOND, Bounds::filled, p -> p.keepers(12, 4), p -> p.keepers(15, 4), p -> p.keepers(Bounds.MAX, 4));
    Bounds.refused(21, "BEYOND: y below 0", Bounds.BEYOND, Bounds::filled, p -> p.keepers(3, -1), p -> p.keepers(3, Bounds.MIN));
    Bounds.refused(21, "BEYOND: y above 11", Bounds.BEYOND, Bounds::filled, p -> p.keepers(3, 12), p -> p.keepers(3, Bounds.MAX));
    Bounds.quiet(21, "nothing changes", Bounds::filled, p -> p.keepers(3, 0), p -> p.keepers(3, 11));
  }

  /** How many lots are free with a house of each kind; the house is as it was then. */
  private static int[] freeByKind(EqualPlain p, int house) {
    int[] free = new int[7];
    int was = p.of(house, 0);
    for (int kind = 0; kind < 7; kind++) {
      p.change(house, kind);
      free[kind] = p.lots(0);
    }
    p.change(house, was);
    return free;
  }

  private static void kindFor() {
    Bounds.test(22, "of several KINDS that do as much the least one", p -> {
      p.grace(3, 5, 5);
      Bounds.due(p.kindFor(0), 0);
      p.change(0, 6);
      Bounds.due(p.kindFor(0), 0);
      p.grace(0, 5, 9);
      int[] free = freeByKind(p, 1);
      p.change(0, 0);
      free = freeByKind(p, 1);
      Bounds.due(free[0], 12);
      Bounds.due(free[1], 12);
      Bounds.due(p.kindFor(1), 0);
    });
    Bounds.test(22, "a KIND that does more, of HOUSE 0 and of the 10th", p -> {
      p.grace(0, 2, 2);
      for (int x = 0; x < 8; x++) p.grace(3, x, 11);
      p.grace(5, 5, 7);
      int[] first = freeByKind(p, 0);
      Bounds.due(first[5] > first[0] && first[5] > first[6] ? 1 : 0, 1);
      Bounds.due(p.kindFor(0), 5);
      p.change(0, 5);
      p.change(9, 0);
      Bounds.due(p.kindFor(9), 5);
      Bounds.due(p.of(9, 0), 0);
    });
    Bounds.test(22, "it is how many LOTS are FREE in all then, of each HOUSE of a town", p -> {
      int[] town = {0, 2, 3, 0, 4, 3, 2, 6, 6, 1, 3, 7, 5, 9, 8, 4, 1, 10, 3, 11, 0, 6, 8, 2};
      for (int i = 0; i < town.length; i += 3) p.grace(town[i], town[i + 1], town[i + 2]);
      for (int house = 0; house < 8; house++) {
        int[] free = freeByKind(p, house);
        int best = 0;
        for (int kind = 0; kind < 7; kind++) if (free[kind] > free[best]) best = kind;
        Bounds.due(p.kindFor(house), best);
      }
    });
    Bounds.test(22, "KIND 6, the last one, if it does most", p -> {
      p.grace(6, 2, 2);
      p.grace(0, 5, 7);
      int[] free = freeByKind(p, 1);
      int best = 0;
      for (int kind = 0; kind < 7; kind++) if (free[kind] > free[best]) best = kind;
      Bounds.due(best, 6);
      Bounds.due(p.kindFor(1), 6);
    });
    Bounds.refused(22, "BEYOND: no such HOUSE", Bounds.BEYOND, Bounds::filled,
        p -> p.kindFor(-1), p -> p.kindFor(4), p -> p.kindFor(10), p -> p.kindFor(Bounds.MIN), p -> p.kindFor(Bounds.MAX));
    Bounds.refused(22, "BEYOND: no HOUSES", Bounds.BEYOND, p -> { }, p -> p.kindFor(0));
    Bounds.quiet(22, "nothing changes", Bounds::filled, p -> p.kindFor(0), p -> p.kindFor(3));
  }

  private static void law() {
    Bounds.test(23, "0 without HOUSES and with one: of several the least KIND", p -> {
      Bounds.due(p.law(), 0);
      p.grace(6, 4, 4);
      Bounds.due(p.law(), 0);
      Bounds.due(p.status(-1), 0);
    });
    Bounds.test(23, "STREETED does as much as TOWER, and goes ahead of it", p -> {
      p.grace(0, 2, 3);
      p.grace(0, 4, 5);
      Bounds.due(p.law(), 5);
    });
    Bounds.test(23, "HOUSE does as much as INN and CHURCH, and goes ahead of them", p -> {
      p.grace(4, 2, 3);
      p.grace(4, 4, 3);
      Bounds.due(p.law(), 0);
    });
    Bounds.test(23, "of 10 HOUSES each becomes of that KIND", p -> {
      Bounds.tenRuins(p);
      int[] free = new int[7];
      for (int kind = 0; kind < 7; kind++) {
        for (int house = 0; house < 10; house++) p.change(house, kind);
        free[kind] = p.lots(0);
      }
      int best = 0;
      for (int kind = 0; kind < 7; kind++) if (free[kind] > free[best]) best = kind;
      Bounds.due(p.law(), best);
      Bounds.due(p.of(0, 0), 6);
    });
    Bounds.quiet(23, "nothing changes", Bounds::filled, p -> p.law());
  }
}
