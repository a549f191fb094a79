/** The boundary cases of the terms of houses, and of promises 1 to 9. */
final class HouseBounds {
  private HouseBounds() {
  }

  static void run() {
    newObject();
    grace();
    build();
    coinBeyond();
    of();
    counts();
    change();
    fire();
    worth();
    coin();
    far();
  }

  private static void newObject() {
    Bounds.test(1, "YEAR is 0 at first", p -> Bounds.due(p.count(0), 0));
    Bounds.test(1, "no HOUSES", p -> {
      Bounds.due(p.count(1), 0);
      Bounds.due(p.of(0, 0), Bounds.BEYOND);
    });
    Bounds.test(1, "COIN is 100 at first", p -> Bounds.due(p.coin(0), 100));
    Bounds.test(1, "no PAIRS", p -> Bounds.due(p.count(3), 0));
    Bounds.test(1, "WORTH of each LOT is 0 at first", p -> {
      for (int lot = 0; lot < 144; lot++) Bounds.due(p.worth(lot % 12, lot / 12, 1), 0);
    });
    Bounds.test(1, "THE TAPE is empty", p -> {
      Bounds.due(p.count(5), 0);
      Bounds.due(p.text(), -1);
      Bounds.due(p.wipe(), 0);
    });
    Bounds.test(1, "z is 1 at first", p -> Bounds.due(p.seed(0), 1));
    Bounds.test(1, "SPOTS hold nothing at first", p -> {
      Bounds.due(p.count(7), 0);
      Bounds.filled(p);
      Bounds.due(p.as(1, 0), Bounds.MISSING);
      Bounds.due(p.as(2, 0), Bounds.MISSING);
      for (int spot = 4; spot < 10; spot++) Bounds.due(p.as(spot, 0), Bounds.MISSING);
    });
    Bounds.test(1, "SHEETS are MISSING at first", p -> {
      for (int s = 0; s < 4; s++) Bounds.due(p.load(s), Bounds.MISSING);
    });
    Bounds.test(1, "no image is kept", p -> {
      Bounds.due(p.tear(), 0);
      Bounds.due(p.undo(), Bounds.NONE);
    });
    Bounds.test(1, "no act has answered a finding", p -> {
      for (int which = -1; which < 7; which++) Bounds.due(p.status(which), 0);
    });
    Bounds.test(1, "two objects know nothing of one another", p -> {
      Bounds.filled(p);
      EqualPlain other = new EqualPlain();
      Bounds.due(other.count(1), 0);
      Bounds.due(other.count(4), 0);
      Bounds.due(other.load(0), Bounds.MISSING);
      Bounds.due(other.undo(), Bounds.NONE);
    });
  }

  private static void grace() {
    Bounds.test(2, "each kind 0 to 6 is taken", p -> {
      for (int kind = 0; kind < 7; kind++) {
        Bounds.due(p.grace(kind, kind, 0), kind);
        Bounds.due(p.of(kind, 0), kind);
      }
    });
    Bounds.test(2, "x 0 and 11, y 0 and 11 are taken", p -> {
      Bounds.due(p.grace(0, 0, 0), 0);
      Bounds.due(p.grace(0, 11, 0), 1);
      Bounds.due(p.grace(0, 0, 11), 2);
      Bounds.due(p.grace(0, 11, 11), 3);
      Bounds.due(p.of(1, 1) * 100 + p.of(1, 2), 1100);
      Bounds.due(p.of(2, 1) * 100 + p.of(2, 2), 11);
    });
    Bounds.refused(2, "BEYOND: kind below 0", Bounds.BEYOND, Bounds::filled,
        p -> p.grace(-1, 5, 5), p -> p.grace(Bounds.MIN, 5, 5));
    Bounds.refused(2, "BEYOND: kind above 6", Bounds.BEYOND, Bounds::filled,
        p -> p.grace(7, 5, 5), p -> p.grace(Bounds.MAX, 5, 5));
    Bounds.refused(2, "BEYOND: x below 0", Bounds.BEYOND, Bounds::filled,
        p -> p.grace(0, -1, 5), p -> p.grace(0, Bounds.MIN, 5));
    Bounds.refused(2, "BEYOND: x above 11", Bounds.BEYOND, Bounds::filled,
        p -> p.grace(0, 12, 5), p -> p.grace(0, Bounds.MAX, 5));
    Bounds.refused(2, "BEYOND: y below 0", Bounds.BEYOND, Bounds::filled,
        p -> p.grace(0, 5, -1), p -> p.grace(0, 5, Bounds.MIN));
    Bounds.refused(2, "BEYOND: y above 11", Bounds.BEYOND, Bounds::filled,
        p -> p.grace(0, 5, 12), p -> p.grace(0, 5, Bounds.MAX));
    Bounds.refused(2, "STATE: one is there", Bounds.STATE, Bounds::filled,
        p -> p.grace(0, 2, 3), p -> p.grace(3, 9, 8));
    Bounds.refused(2, "FULL: with 10 HOUSES", Bounds.FULL, Bounds::ten,
        p -> p.grace(0, 3, 0), p -> p.grace(3, 0, 0));
    Bounds.test(2, "the 10th HOUSE is number 9", p -> {
      Bounds.twoAndRuins(p, 7);
      Bounds.due(p.grace(0, 0, 0), 9);
      Bounds.due(p.count(1), 10);
    });
    Bounds.refused(2, "BEYOND goes ahead of STATE and FULL", Bounds.BEYOND, Bounds::ten,
        p -> p.grace(7, 2, 3), p -> p.grace(7, 0, 0), p -> p.grace(0, 12, 0), p -> p.grace(0, 0, -1));
    Bounds.refused(2, "STATE goes ahead of FULL", Bounds.STATE, Bounds::ten, p -> p.grace(0, 2, 3));
    Bounds.test(2, "FREE or not", p -> {
      Bounds.two(p);
      Bounds.due(p.pairs(3, 3), 1);
      Bounds.due(p.grace(0, 3, 3), 2);
      Bounds.due(p.pairs(8, 0), 0);
      Bounds.due(p.grace(0, 8, 0), 3);
    });
    Bounds.test(2, "for nothing: without COIN, and WORTH of the LOT is no COIN", p -> {
      p.coin(0);
      p.worth(5, 5, 99);
      Bounds.due(p.grace(6, 5, 5), 0);
      Bounds.due(p.count(2), 0);
      Bounds.due(p.count(4), 99);
    });
    Bounds.test(2, "its number: that of one that burned down comes again", p -> {
      Bounds.two(p);
      p.fire();
      Bounds.due(p.grace(0, 7, 7), 1);
      Bounds.due(p.of(1, 1), 7);
    });
  }

  private static void build() {
    Bounds.test(3, "each kind 0 to 6 is taken, for just what it COSTS", p -> {
      int[] costs = {10, 3, 25, 4, 25, 10, 40};
      Bounds.two(p);
      for (int kind = 0; kind < 7; kind++) {
        p.coin(costs[kind]);
        Bounds.due(p.build(kind, 3, kind), 0);
        Bounds.due(p.of(2, 0), kind);
        p.fire();
      }
    });
    Bounds.refused(3, "STATE: COIN is 1 below what it COSTS: kind 0", Bounds.STATE, p -> with(p, 9), p -> p.build(0, 3, 3));
    Bounds.refused(3, "STATE: COIN is 1 below what it COSTS: kind 1", Bounds.STATE, p -> with(p, 2), p -> p.build(1, 3, 3));
    Bounds.refused(3, "STATE: COIN is 1 below what it COSTS: kind 2", Bounds.STATE, p -> with(p, 24), p -> p.build(2, 3, 3));
    Bounds.refused(3, "STATE: COIN is 1 below what it COSTS: kind 3", Bounds.STATE, p -> with(p, 3), p -> p.build(3, 3, 3));
    Bounds.refused(3, "STATE: COIN is 1 below what it COSTS: kind 4", Bounds.STATE, p -> with(p, 24), p -> p.build(4, 3, 3));
    Bounds.refused(3, "STATE: COIN is 1 below what it COSTS: kind 5", Bounds.STATE, p -> with(p, 9), p -> p.build(5, 3, 3));
    Bounds.refused(3, "STATE: COIN is 1 below what it COSTS: kind 6", Bounds.STATE, p -> with(p, 39), p -> p.build(6, 3, 3));
    Bounds.refused(3, "STATE: WORTH of the LOT doesn't help to pay", Bounds.STATE, p -> {
      with(p, 9);
      p.worth(3, 3, 99);
    }, p -> p.build(0, 3, 3));
    Bounds.refused(3, "STATE: the LOT isn't FREE: as far from no two", Bounds.STATE, Bounds::filled, p -> p.build(0, 4, 4));
    Bounds.refused(3, "STATE: the LOT isn't FREE: one stands there", Bounds.STATE, Bounds::filled, p -> p.build(0, 2, 3));
    Bounds.refused(3, "STATE: one stands on a LOT as far from two", Bounds.STATE, p -> {
      Bounds.filled(p);
      p.grace(3, 3, 4);
    }, p -> p.build(0, 3, 4));
    Bounds.refused(3, "STATE: no HOUSES, no FREE LOT", Bounds.STATE, p -> { }, p -> p.build(0, 0, 0));
    Bounds.refused(3, "STATE: one HOUSE makes no LOT FREE", Bounds.STATE, p -> p.grace(0, 2, 2),
        p -> p.build(0, 2, 2), p -> p.build(0, 3, 3));
    Bounds.refused(3, "BEYOND: kind below 0", Bounds.BEYOND, Bounds::filled,
        p -> p.build(-1, 3, 3), p -> p.build(Bounds.MIN, 3, 3));
    Bounds.refused(3, "BEYOND: kind above 6", Bounds.BEYOND, Bounds::filled,
        p -> p.build(7, 3, 3), p -> p.build(Bounds.MAX, 3, 3));
    Bounds.refused(3, "BEYOND: x below 0", Bounds.BEYOND, Bounds::filled,
        p -> p.build(0, -1, 3), p -> p.build(0, Bounds.MIN, 3), p -> p.build(0, -9, 4));
    Bounds.refused(3, "BEYOND: x above 11", Bounds.BEYOND, Bounds::filled,
        p -> p.build(0, 12, 3), p -> p.build(0, Bounds.MAX, 3), p -> p.build(0, 15, 2));
    Bounds.refused(3, "BEYOND: y below 0", Bounds.BEYOND, Bounds::filled,
        p -> p.build(0, 3, -1), p -> p.build(0, 3, Bounds.MIN));
    Bounds.refused(3, "BEYOND: y above 11", Bounds.BEYOND, Bounds::filled,
        p -> p.build(0, 3, 12), p -> p.build(0, 3, Bounds.MAX));
    Bounds.test(3, "x 0 and 11, y 0 and 11 are taken", p -> {
      p.grace(0, 0, 1);
      p.grace(0, 1, 0);
      p.grace(0, 10, 0);
      p.grace(0, 11, 1);
      Bounds.due(p.build(1, 0, 0), 97);
      Bounds.due(p.build(1, 11, 0), 94);
      Bounds.due(p.build(1, 11, 11), 91);
      Bounds.due(p.build(1, 0, 11), 88);
    });
    Bounds.refused(3, "FULL: with 10 HOUSES", Bounds.FULL, Bounds::ten, p -> p.build(0, 3, 3), p -> p.build(3, 3, 0));
    Bounds.test(3, "the 10th HOUSE can be built", p -> {
      Bounds.twoAndRuins(p, 7);
      Bounds.due(p.build(0, 3, 3), 90);
      Bounds.due(p.count(1), 10);
      Bounds.due(p.of(9, 2), 3);
    });
    Bounds.refused(3, "BEYOND goes ahead of STATE and FULL", Bounds.BEYOND, Bounds::ten,
        p -> p.build(7, 3, 3), p -> p.build(-1, 2, 3), p -> p.build(0, 3, 12));
    Bounds.refused(3, "STATE (the LOT isn't FREE) goes ahead of FULL", Bounds.STATE, Bounds::ten,
        p -> p.build(0, 4, 4), p -> p.build(0, 2, 3));
    Bounds.refused(3, "STATE (COIN is below what it COSTS) goes ahead of FULL", Bounds.STATE, p -> {
      Bounds.ten(p);
      p.coin(9);
    }, p -> p.build(0, 3, 3));
    Bounds.test(3, "COIN is what it COSTS less, and the WORTH of the LOT more", p -> {
      Bounds.two(p);
      p.coin(10);
      p.worth(3, 3, 99);
      Bounds.due(p.build(0, 3, 3), 99);
      Bounds.due(p.count(2), 99);
      Bounds.due(p.count(4), 99);
    });
  }

  private static void with(EqualPlain p, int coin) {
    Bounds.filled(p);
    p.coin(coin);
  }

  private static void coinBeyond() {
    Bounds.test(3, "COIN may be more than 99999 by build()", p -> {
      Bounds.two(p);
      p.coin(99999);
      p.worth(3, 0, 99);
      p.worth(3, 1, 99);
      Bounds.due(p.build(1, 3, 0), 100095);
      Bounds.due(p.build(1, 3, 1), 100191);
      Bounds.due(p.ahead(0, 1), 100191);
      Bounds.due(p.coin(0), 100191);
    });
  }

  private static void of() {
    Bounds.test(4, "HOUSE 0 and the last one are taken, what 0 and 4", p -> {
      Bounds.circle(p);
      Bounds.due(p.of(0, 0), 0);
      Bounds.due(p.of(0, 4), 0b1111111110);
      Bounds.due(p.of(9, 4), 0b0111111111);
      Bounds.due(p.of(9, 1) * 100 + p.of(9, 2), 1005);
    });
    Bounds.refused(4, "BEYOND: no such HOUSE", Bounds.BEYOND, Bounds::filled,
        p -> p.of(-1, 0), p -> p.of(4, 0), p -> p.of(9, 0), p -> p.of(10, 0), p -> p.of(Bounds.MIN, 0), p -> p.of(Bounds.MAX, 0));
    Bounds.refused(4, "BEYOND: a 10th one's next", Bounds.BEYOND, Bounds::ten, p -> p.of(10, 0), p -> p.of(11, 4));
    Bounds.refused(4, "BEYOND: one that burned down", Bounds.BEYOND, p -> {
      Bounds.filled(p);
      p.fire();
    }, p -> p.of(3, 0), p -> p.of(3, 4));
    Bounds.refused(4, "BEYOND: what below 0", Bounds.BEYOND, Bounds::filled, p -> p.of(0, -1), p -> p.of(0, Bounds.MIN));
    Bounds.refused(4, "BEYOND: what above 4", Bounds.BEYOND, Bounds::filled, p -> p.of(0, 5), p -> p.of(0, Bounds.MAX));
    Bounds.test(4, "COSTS of each kind", p -> {
      int[] costs = {10, 3, 25, 4, 25, 10, 40};
      p.grace(0, 0, 0);
      for (int kind = 0; kind < 7; kind++) {
        p.change(0, kind);
        Bounds.due(p.of(0, 3), costs[kind]);
      }
    });
    Bounds.test(4, "one alone is a PAIR with none, not with itself", p -> {
      for (int kind = 0; kind < 7; kind++) {
        p.grace(kind, 5, 5);
        Bounds.due(p.of(0, 4), 0);
        p.fire();
      }
    });
  }

  /** Two houses; due is if they are a pair, from either side. */
  private static void pair(EqualPlain p, int kind, int other, int x, int y, int due) {
    p.grace(kind, 0, 0);
    p.grace(other, x, y);
    Bounds.due(p.of(0, 4) >> 1, due);
    Bounds.due(p.of(1, 4), due);
    p.change(0, other);
    p.change(1, kind);
    Bounds.due(p.of(0, 4) >> 1, due);
    p.fire();
    p.fire();
  }

  private static void counts() {
    Bounds.test(4, "HOUSE: with any, however far", p -> {
      pair(p, 0, 0, 11, 11, 1);
      pair(p, 0, 5, 11, 11, 1);
      pair(p, 0, 6, 11, 11, 1);
      pair(p, 0, 1, 11, 11, 1);
      pair(p, 5, 6, 11, 11, 1);
    });
    Bounds.test(4, "HUT: not with one of KIND 1", p -> pair(p, 1, 1, 1, 0, 0));
    Bounds.test(4, "HUT: not with one of KIND 3", p -> pair(p, 1, 3, 1, 0, 0));
    Bounds.test(4, "HUT: with each other KIND", p -> {
      for (int kind : new int[] {0, 2, 4, 5, 6}) pair(p, 1, kind, 1, 0, 1);
    });
    Bounds.test(4, "RUIN: with none", p -> {
      for (int kind = 0; kind < 7; kind++) pair(p, 3, kind, 1, 0, 0);
    });
    Bounds.test(4, "INN: FAR 64 at most, of a HOUSE", p -> {
      pair(p, 2, 0, 8, 0, 1);
      pair(p, 2, 0, 0, 8, 1);
      pair(p, 2, 0, 8, 1, 0);
      pair(p, 2, 0, 4, 7, 0);
      pair(p, 2, 0, 5, 6, 1);
    });
    Bounds.test(4, "INN: FAR 64 at most, of a HUT", p -> {
      pair(p, 2, 1, 8, 0, 1);
      pair(p, 2, 1, 8, 1, 0);
    });
    Bounds.test(4, "INN: FAR 64 at most, of a STREETED one", p -> {
      pair(p, 2, 5, 8, 0, 1);
      pair(p, 2, 5, 4, 4, 1);
      pair(p, 2, 5, 4, 5, 0);
      pair(p, 2, 5, 9, 0, 0);
    });
    Bounds.test(4, "INN: FAR 64 at most, of a TOWER (a pace less)", p -> {
      pair(p, 2, 6, 4, 4, 1);
      pair(p, 2, 6, 4, 5, 0);
    });
    Bounds.test(4, "INN: FAR 64 at most, of an INN", p -> {
      pair(p, 2, 2, 8, 0, 1);
      pair(p, 2, 2, 8, 1, 0);
    });
    Bounds.test(4, "INN: FAR 64 at most, of a CHURCH (and 1)", p -> {
      pair(p, 2, 4, 6, 5, 1);
      pair(p, 2, 4, 8, 0, 0);
    });
    Bounds.test(4, "CHURCH: as an INN: 64 at most", p -> {
      pair(p, 4, 0, 8, 0, 1);
      pair(p, 4, 0, 8, 1, 0);
      pair(p, 4, 5, 4, 4, 1);
      pair(p, 4, 5, 4, 5, 0);
      pair(p, 4, 4, 6, 5, 1);
      pair(p, 4, 4, 8, 0, 0);
    });
    Bounds.test(4, "a PAIR: each of which COUNTS with the other one", p -> {
      p.grace(2, 0, 0);
      p.grace(0, 9, 0);
      p.grace(0, 8, 0);
      Bounds.due(p.of(0, 4), 4);
      Bounds.due(p.of(1, 4), 4);
      Bounds.due(p.count(3), 2);
    });
  }

  private static void change() {
    Bounds.test(5, "v 0 and 6 are taken, of HOUSE 0 and the last one", p -> {
      Bounds.ten(p);
      Bounds.due(p.change(0, 6), 0);
      Bounds.due(p.change(0, 0), 6);
      Bounds.due(p.change(9, 6), 3);
      Bounds.due(p.of(9, 0), 6);
    });
    Bounds.refused(5, "BEYOND: no such HOUSE", Bounds.BEYOND, Bounds::filled,
        p -> p.change(-1, 0), p -> p.change(4, 0), p -> p.change(10, 0), p -> p.change(Bounds.MIN, 0), p -> p.change(Bounds.MAX, 0));
    Bounds.refused(5, "BEYOND: v below 0", Bounds.BEYOND, Bounds::filled, p -> p.change(0, -1), p -> p.change(0, Bounds.MIN));
    Bounds.refused(5, "BEYOND: v above 6", Bounds.BEYOND, Bounds::filled, p -> p.change(0, 7), p -> p.change(0, Bounds.MAX));
    Bounds.quiet(5, "to the KIND that it is: nothing changes", Bounds::filled, p -> p.change(0, 0), p -> p.change(2, 6));
    Bounds.test(5, "what it was", p -> {
      p.grace(4, 1, 1);
      Bounds.due(p.change(0, 4), 4);
      Bounds.due(p.change(0, 1), 4);
      Bounds.due(p.change(0, 3), 1);
      Bounds.due(p.count(2), 100);
    });
  }

  private static void fire() {
    Bounds.refused(6, "NONE: no HOUSES", Bounds.NONE, p -> { }, p -> p.fire());
    Bounds.refused(6, "NONE: all burned down", Bounds.NONE, p -> {
      Bounds.two(p);
      p.fire();
      p.fire();
    }, p -> p.fire());
    Bounds.test(6, "the last one: LOT 0 and LOT 143 as a number", p -> {
      p.grace(0, 11, 11);
      p.grace(0, 0, 0);
      p.grace(0, 11, 0);
      Bounds.due(p.fire(), 11);
      Bounds.due(p.fire(), 0);
      Bounds.due(p.fire(), 143);
      Bounds.due(p.count(1), 0);
    });
    Bounds.test(6, "of 10 HOUSES the 10th; there is room for one then", p -> {
      Bounds.ten(p);
      Bounds.due(p.fire(), 136);
      Bounds.due(p.count(1), 9);
      Bounds.due(p.grace(0, 4, 11), 9);
    });
    Bounds.test(6, "COIN, WORTH and what SPOTS hold stay", p -> {
      Bounds.filled(p);
      p.hold(5, 3);
      int coin = p.count(2);
      Bounds.due(p.fire(), 126);
      Bounds.due(p.count(2), coin);
      Bounds.due(p.count(4), 40);
      Bounds.due(p.count(7), 3);
    });
  }

  private static void worth() {
    Bounds.test(7, "v 0 and 99, x and y 0 and 11 are taken", p -> {
      Bounds.due(p.worth(0, 0, 99), 0);
      Bounds.due(p.worth(11, 0, 98), 0);
      Bounds.due(p.worth(0, 11, 97), 0);
      Bounds.due(p.worth(11, 11, 96), 0);
      Bounds.due(p.count(4), 390);
      Bounds.due(p.worth(0, 0, 0), 99);
      Bounds.due(p.worth(11, 0, 0), 98);
      Bounds.due(p.worth(0, 11, 0), 97);
      Bounds.due(p.worth(11, 11, 0), 96);
      Bounds.due(p.count(4), 0);
    });
    Bounds.refused(7, "BEYOND: v below 0", Bounds.BEYOND, Bounds::filled, p -> p.worth(3, 3, -1), p -> p.worth(3, 3, Bounds.MIN));
    Bounds.refused(7, "BEYOND: v above 99", Bounds.BEYOND, Bounds::filled, p -> p.worth(3, 3, 100), p -> p.worth(3, 3, Bounds.MAX));
    Bounds.refused(7, "BEYOND: x below 0", Bounds.BEYOND, Bounds::filled, p -> p.worth(-1, 1, 5), p -> p.worth(Bounds.MIN, 1, 5));
    Bounds.refused(7, "BEYOND: x above 11", Bounds.BEYOND, Bounds::filled, p -> p.worth(12, 1, 5), p -> p.worth(Bounds.MAX, 1, 5));
    Bounds.refused(7, "BEYOND: y below 0", Bounds.BEYOND, Bounds::filled, p -> p.worth(1, -1, 5), p -> p.worth(1, Bounds.MIN, 5));
    Bounds.refused(7, "BEYOND: y above 11", Bounds.BEYOND, Bounds::filled, p -> p.worth(1, 12, 5), p -> p.worth(1, Bounds.MAX, 5));
    Bounds.test(7, "also of a LOT on which one stands", p -> {
      Bounds.two(p);
      Bounds.due(p.worth(2, 3, 7), 0);
      Bounds.due(p.worth(2, 3, 7), 7);
    });
  }

  private static void coin() {
    Bounds.test(8, "v 0 and 99999 are taken", p -> {
      Bounds.due(p.coin(99999), 100);
      Bounds.due(p.count(2), 99999);
      Bounds.due(p.coin(0), 99999);
      Bounds.due(p.count(2), 0);
    });
    Bounds.refused(8, "BEYOND: v below 0", Bounds.BEYOND, Bounds::filled, p -> p.coin(-1), p -> p.coin(Bounds.MIN));
    Bounds.refused(8, "BEYOND: v above 99999", Bounds.BEYOND, Bounds::filled, p -> p.coin(100000), p -> p.coin(Bounds.MAX));
  }

  private static void far() {
    Bounds.test(9, "from its own LOT: 0; CHURCH 1, TOWER -1, which is no finding", p -> {
      int[] due = {0, 0, 0, 0, 1, 0, -1};
      p.grace(0, 11, 11);
      for (int kind = 0; kind < 7; kind++) {
        p.change(0, kind);
        Bounds.due(p.far(0, 11, 11), due[kind]);
      }
      Bounds.due(p.status(-1), 0);
    });
    Bounds.test(9, "from corner to corner", p -> {
      int[] due = {242, 242, 242, 242, 243, 484, 483};
      p.grace(0, 0, 0);
      p.grace(0, 11, 11);
      for (int kind = 0; kind < 7; kind++) {
        p.change(0, kind);
        p.change(1, kind);
        Bounds.due(p.far(0, 11, 11), due[kind]);
        Bounds.due(p.far(1, 0, 0), due[kind]);
      }
    });
    Bounds.test(9, "streets: how far apart in x and in y, whichever is greater", p -> {
      p.grace(5, 5, 5);
      Bounds.due(p.far(0, 3, 8), 25);
      Bounds.due(p.far(0, 7, 2), 25);
      Bounds.due(p.far(0, 2, 3), 25);
      Bounds.due(p.far(0, 8, 7), 25);
    });
    Bounds.test(9, "of the 10th HOUSE", p -> {
      Bounds.circle(p);
      Bounds.due(p.far(9, 10, 7), 4);
    });
    Bounds.refused(9, "BEYOND: no such HOUSE", Bounds.BEYOND, Bounds::filled,
        p -> p.far(-1, 0, 0), p -> p.far(4, 0, 0), p -> p.far(10, 0, 0), p -> p.far(Bounds.MIN, 0, 0), p -> p.far(Bounds.MAX, 0, 0));
    Bounds.refused(9, "BEYOND: x below 0", Bounds.BEYOND, Bounds::filled, p -> p.far(0, -1, 0), p -> p.far(0, Bounds.MIN, 0));
    Bounds.refused(9, "BEYOND: x above 11", Bounds.BEYOND, Bounds::filled, p -> p.far(0, 12, 0), p -> p.far(0, Bounds.MAX, 0));
    Bounds.refused(9, "BEYOND: y below 0", Bounds.BEYOND, Bounds::filled, p -> p.far(0, 0, -1), p -> p.far(0, 0, Bounds.MIN));
    Bounds.refused(9, "BEYOND: y above 11", Bounds.BEYOND, Bounds::filled, p -> p.far(0, 0, 12), p -> p.far(0, 0, Bounds.MAX));
  }
}
