/** The boundary cases of promises 24 to 27 (huts) and 28 to 30 (the village). */
final class HutBounds {
  private HutBounds() {
  }

  static void run() {
    huts();
    hut();
    wrongLots();
    opens();
    opened();
    orders();
    founders();
    latest();
  }

  /** Free are just (1, 0) and (0, 1); from those on the plain opens slowly. */
  private static void slow(EqualPlain p) {
    p.grace(0, 0, 0);
    p.grace(0, 1, 1);
  }

  private static void huts() {
    Bounds.test(24, "0: it is FREE; the corners too", p -> {
      p.grace(0, 0, 1);
      p.grace(0, 1, 0);
      Bounds.due(p.huts(0, 0), 0);
      Bounds.due(p.huts(11, 11), 0);
      p.fire();
      p.fire();
      p.grace(0, 10, 0);
      p.grace(0, 11, 1);
      Bounds.due(p.huts(11, 0), 0);
      Bounds.due(p.huts(0, 11), 0);
    });
    Bounds.test(24, "1: together with one that stands", p -> {
      Bounds.two(p);
      Bounds.due(p.huts(4, 4), 1);
    });
    Bounds.test(24, "2: those two together, or one of them with one that stands", p -> {
      slow(p);
      Bounds.due(p.huts(2, 2), 2);
      Bounds.two(p);
      Bounds.due(p.huts(2, 2) <= 2 ? 1 : 0, 1);
    });
    Bounds.refused(24, "NONE: 2 don't do, though it can be had EVER", Bounds.NONE, HutBounds::slow,
        p -> p.huts(2, 0), p -> p.huts(11, 11 - 1));
    Bounds.test(24, "EVER has what huts() can't", p -> {
      slow(p);
      Bounds.due(p.huts(2, 0), Bounds.NONE);
      Bounds.due(p.ever(0) & 4, 4);
    });
    Bounds.refused(24, "NONE: each on a LOT FREE by then: the only FREE one opens nothing", Bounds.NONE, p -> {
      p.grace(0, 0, 0);
      p.grace(0, 11, 1);
    }, p -> p.huts(5, 5), p -> p.huts(1, 0), p -> p.huts(11, 11));
    Bounds.refused(24, "NONE: no HOUSES", Bounds.NONE, p -> { }, p -> p.huts(0, 0), p -> p.huts(11, 11));
    Bounds.refused(24, "NONE: one HOUSE", Bounds.NONE, p -> p.grace(0, 5, 5), p -> p.huts(5, 6));
    Bounds.refused(24, "STATE: one stands there", Bounds.STATE, Bounds::filled, p -> p.huts(2, 3), p -> p.huts(9, 8));
    Bounds.refused(24, "STATE goes ahead of NONE; where one stands none is put up", Bounds.STATE, Bounds::tenRuins,
        p -> p.huts(0, 11), p -> p.huts(9, 11));
    Bounds.test(24, "COIN isn't asked", p -> {
      Bounds.two(p);
      p.coin(0);
      Bounds.due(p.huts(4, 4), 1);
      Bounds.due(p.huts(0, 1), 2);
    });
    Bounds.test(24, "10 isn't asked", p -> {
      Bounds.ten(p);
      Bounds.due(p.huts(4, 4), 1);
      Bounds.due(p.huts(0, 1), 2);
    });
    Bounds.test(24, "those put up are of KIND 0: beside huts, ruins and inns", p -> {
      NaiveModel model = new NaiveModel();
      int[] town = {1, 2, 3, 5, 4, 3, 3, 0, 0, 2, 11, 11, 1, 6, 6};
      for (int i = 0; i < town.length; i += 3) {
        p.grace(town[i], town[i + 1], town[i + 2]);
        model.grace(town[i], town[i + 1], town[i + 2]);
      }
      for (int lot = 0; lot < 144; lot++) {
        Bounds.due(p.huts(lot % 12, lot / 12), model.huts(lot % 12, lot / 12));
        Bounds.due(p.hut(lot % 12, lot / 12, 0), model.hut(lot % 12, lot / 12, 0));
      }
    });
    Bounds.quiet(24, "nothing changes", Bounds::filled, p -> p.huts(4, 4), p -> p.huts(0, 1), p -> p.huts(3, 3));
  }

  private static void hut() {
    Bounds.test(25, "i 0 and 1 are taken: both of two", p -> {
      slow(p);
      Bounds.due(p.hut(2, 2, 0), 1);
      Bounds.due(p.hut(2, 2, 1), 12);
    });
    Bounds.refused(25, "NONE: 0 are needed", Bounds.NONE, Bounds::filled, p -> p.hut(3, 3, 0), p -> p.hut(3, 3, 1));
    Bounds.refused(25, "NONE: just 1 is needed", Bounds.NONE, Bounds::two, p -> p.hut(4, 4, 1));
    Bounds.refused(25, "NONE: 2 don't do", Bounds.NONE, HutBounds::slow, p -> p.hut(2, 0, 0), p -> p.hut(2, 0, 1));
    Bounds.refused(25, "NONE: no HOUSES", Bounds.NONE, p -> { }, p -> p.hut(0, 0, 0), p -> p.hut(0, 0, 1));
    Bounds.refused(25, "BEYOND: i below 0", Bounds.BEYOND, Bounds::two, p -> p.hut(4, 4, -1), p -> p.hut(4, 4, Bounds.MIN));
    Bounds.refused(25, "BEYOND: i above 1", Bounds.BEYOND, Bounds::two, p -> p.hut(4, 4, 2), p -> p.hut(0, 1, 2), p -> p.hut(4, 4, Bounds.MAX));
    Bounds.refused(25, "STATE: one stands there", Bounds.STATE, Bounds::two, p -> p.hut(2, 3, 0), p -> p.hut(4, 3, 1));
    Bounds.refused(25, "BEYOND (i) goes ahead of STATE and of NONE", Bounds.BEYOND, Bounds::two,
        p -> p.hut(2, 3, 2), p -> p.hut(2, 3, -1), p -> p.hut(3, 3, 2));
    Bounds.refused(25, "STATE goes ahead of NONE", Bounds.STATE, Bounds::tenRuins, p -> p.hut(0, 11, 0), p -> p.hut(9, 11, 1));
    Bounds.test(25, "one: the least LOT that does", p -> {
      Bounds.two(p);
      // (4, 4) is 5 from (2, 3), as from (3, 2) and (3, 6), which are free; and 1 from (4, 3), as from (3, 4)
      Bounds.due(p.hut(4, 4, 0), 27);
      p.grace(3, 3, 2);
      Bounds.due(p.hut(4, 4, 0), 51);
      p.grace(3, 3, 4);
      Bounds.due(p.hut(4, 4, 0), 75);
    });
    Bounds.test(25, "two: by the LOT of the first one, then of the second one", p -> {
      p.grace(0, 0, 9);
      p.grace(0, 4, 1);
      // the second one's number may be below the first one's
      Bounds.due(p.hut(2, 0, 0), 62);
      Bounds.due(p.hut(2, 0, 1), 25);
      p.fire();
      p.fire();
      p.grace(0, 5, 4);
      p.grace(0, 9, 8);
      Bounds.due(p.hut(2, 0, 0), 35);
      Bounds.due(p.hut(2, 0, 1), 7);
    });
    Bounds.test(25, "the first one on LOT 0, of one and of two", p -> {
      p.grace(0, 5, 5);
      p.grace(0, 1, 7);
      Bounds.due(p.hut(5, 0, 0), 0);
      Bounds.due(p.huts(5, 0), 1);
      Bounds.due(p.hut(10, 0, 0), 0);
      Bounds.due(p.hut(10, 0, 1), 100);
    });
    Bounds.test(25, "the second one on LOT 0", p -> {
      p.grace(0, 0, 6);
      p.grace(0, 0, 10);
      Bounds.due(p.hut(9, 3, 0), 102);
      Bounds.due(p.hut(9, 3, 1), 0);
    });
    Bounds.test(25, "the only one on LOT 143", p -> {
      p.grace(0, 11, 1);
      p.grace(0, 3, 5);
      Bounds.due(p.huts(0, 6), 1);
      Bounds.due(p.hut(0, 6, 0), 143);
    });
    Bounds.test(25, "the second one on LOT 143", p -> {
      p.grace(0, 4, 10);
      p.grace(0, 8, 10);
      Bounds.due(p.hut(9, 0, 0), 78);
      Bounds.due(p.hut(9, 0, 1), 143);
    });
    Bounds.test(25, "two: no lesser LOT of the first one does, nor then of the second one", p -> {
      slow(p);
      firstWay(p, 5, 5);
      p.fire();
      p.fire();
      Bounds.two(p);
      firstWay(p, 0, 1);
      firstWay(p, 9, 1);
    });
    Bounds.test(25, "COIN and 10 aren't asked", p -> {
      Bounds.ten(p);
      p.coin(0);
      Bounds.due(p.hut(4, 4, 0), 27);
      Bounds.due(p.hut(0, 1, 0), 3);
      Bounds.due(p.hut(0, 1, 1), 27);
    });
    Bounds.quiet(25, "nothing changes", Bounds::filled, p -> p.hut(4, 4, 0), p -> p.hut(0, 1, 0), p -> p.hut(0, 1, 1));
  }

  /** Tries all pairs of lots in their order on towns of the two houses of p. */
  private static void firstWay(EqualPlain p, int x, int y) {
    for (int first = 0; first < 144; first++) {
      if ((p.row(first / 12) >> first % 12 & 1) == 0) continue;
      EqualPlain other = new EqualPlain();
      for (int house = 0; house < 2; house++) other.grace(0, p.of(house, 1), p.of(house, 2));
      other.grace(0, first % 12, first / 12);
      for (int second = 0; second < 144; second++) {
        if (second == 12 * y + x || other.pairs(second % 12, second / 12) == 0) continue;
        other.grace(0, second % 12, second / 12);
        boolean opened = other.pairs(x, y) > 0;
        other.fire();
        if (opened) {
          Bounds.due(p.huts(x, y), 2);
          Bounds.due(p.hut(x, y, 0), first);
          Bounds.due(p.hut(x, y, 1), second);
          return;
        }
      }
    }
    Bounds.due(0, 1);
  }

  private static void wrongLots() {
    Bounds.refused(24, "BEYOND: x below 0", Bounds.BEYOND, Bounds::filled, p -> p.huts(-1, 4), p -> p.huts(-9, 4), p -> p.huts(Bounds.MIN, 4));
    Bounds.refused(24, "BEYOND: x above 11", Bounds.BEYOND, Bounds::filled, p -> p.huts(12, 4), p -> p.huts(14, 2), p -> p.huts(Bounds.MAX, 4));
    Bounds.refused(24, "BEYOND: y below 0", Bounds.BEYOND, Bounds::filled, p -> p.huts(3, -1), p -> p.huts(3, Bounds.MIN));
    Bounds.refused(24, "BEYOND: y above 11", Bounds.BEYOND, Bounds::filled, p -> p.huts(3, 12), p -> p.huts(3, Bounds.MAX));
    Bounds.refused(25, "BEYOND: x below 0", Bounds.BEYOND, Bounds::filled, p -> p.hut(-1, 5, 0), p -> p.hut(Bounds.MIN, 4, 0));
    Bounds.refused(25, "BEYOND: x above 11", Bounds.BEYOND, Bounds::filled, p -> p.hut(12, 4, 0), p -> p.hut(14, 2, 0), p -> p.hut(Bounds.MAX, 4, 0));
    Bounds.refused(25, "BEYOND: y below 0", Bounds.BEYOND, Bounds::filled, p -> p.hut(4, -1, 0), p -> p.hut(4, Bounds.MIN, 0));
    Bounds.refused(25, "BEYOND: y above 11", Bounds.BEYOND, Bounds::filled, p -> p.hut(4, 12, 0), p -> p.hut(4, Bounds.MAX, 0));
  }

  private static void opens() {
    Bounds.refused(26, "NONE: none is FREE", Bounds.NONE, p -> { }, p -> p.opens(0), p -> p.opens(6));
    Bounds.refused(26, "NONE: one HOUSE", Bounds.NONE, p -> p.grace(0, 5, 5), p -> p.opens(0));
    Bounds.refused(26, "FULL: there are 10 HOUSES", Bounds.FULL, Bounds::ten, p -> p.opens(0), p -> p.opens(6));
    Bounds.refused(26, "NONE goes ahead of FULL", Bounds.NONE, Bounds::tenRuins, p -> p.opens(0));
    Bounds.refused(26, "BEYOND: kind below 0", Bounds.BEYOND, Bounds::filled, p -> p.opens(-1), p -> p.opens(Bounds.MIN));
    Bounds.refused(26, "BEYOND: kind above 6", Bounds.BEYOND, Bounds::filled, p -> p.opens(7), p -> p.opens(Bounds.MAX));
    Bounds.refused(26, "BEYOND goes ahead of NONE", Bounds.BEYOND, p -> { }, p -> p.opens(7));
    Bounds.refused(26, "BEYOND goes ahead of FULL", Bounds.BEYOND, Bounds::ten, p -> p.opens(-1));
    Bounds.test(26, "with 9 HOUSES", p -> {
      Bounds.twoAndRuins(p, 7);
      // a ruin opens nothing: the least lot
      Bounds.due(p.opens(3), 3);
    });
    Bounds.test(26, "of several the least number: a RUIN does as much anywhere", p -> {
      p.grace(0, 0, 1);
      p.grace(0, 1, 0);
      Bounds.due(p.opens(3), 0);
      p.grace(3, 0, 0);
      Bounds.due(p.opens(3), 13);
    });
    Bounds.test(26, "just one is FREE, the last one", p -> {
      p.grace(0, 0, 1);
      p.grace(0, 1, 0);
      p.worth(0, 0, 99);
      for (int at = 0; at < 8; at++) p.grace(3, at, at);
      Bounds.due(p.opens(0), Bounds.FULL);
      p.fire();
      Bounds.due(p.opens(3), 91);
    });
    Bounds.test(26, "each kind 0 to 6: where most LOTS are FREE then, the least of several", p -> {
      for (int kind = 0; kind < 7; kind++) tryOut(kind);
    });
    Bounds.test(26, "COIN isn't asked", p -> {
      Bounds.two(p);
      p.coin(0);
      Bounds.due(p.opens(3), 3);
      Bounds.due(p.opens(6) >= 0 ? 1 : 0, 1);
    });
    Bounds.quiet(26, "nothing changes", Bounds::filled, p -> p.opens(0), p -> p.opens(3), p -> p.opens(6));
  }

  private static void tryOut(int kind) {
    EqualPlain p = new EqualPlain();
    Bounds.two(p);
    p.grace(5, 9, 8);
    int lot = -1;
    int most = -1;
    for (int at = 0; at < 144; at++) {
      if (p.pairs(at % 12, at / 12) == 0) continue;
      p.grace(kind, at % 12, at / 12);
      int free = p.lots(0);
      p.fire();
      if (free > most) {
        most = free;
        lot = at;
      }
    }
    Bounds.due(p.opens(kind), lot);
    Bounds.due(p.opened(kind), most);
  }

  private static void opened() {
    Bounds.refused(27, "NONE: none is FREE", Bounds.NONE, p -> { }, p -> p.opened(0), p -> p.opened(6));
    Bounds.refused(27, "FULL: there are 10 HOUSES", Bounds.FULL, Bounds::ten, p -> p.opened(0), p -> p.opened(6));
    Bounds.refused(27, "NONE goes ahead of FULL", Bounds.NONE, Bounds::tenRuins, p -> p.opened(0));
    Bounds.refused(27, "BEYOND: kind below 0", Bounds.BEYOND, Bounds::filled, p -> p.opened(-1), p -> p.opened(Bounds.MIN));
    Bounds.refused(27, "BEYOND: kind above 6", Bounds.BEYOND, Bounds::filled, p -> p.opened(7), p -> p.opened(Bounds.MAX));
    Bounds.refused(27, "BEYOND goes ahead of NONE", Bounds.BEYOND, p -> { }, p -> p.opened(7));
    Bounds.refused(27, "BEYOND goes ahead of FULL", Bounds.BEYOND, Bounds::ten, p -> p.opened(-1));
    Bounds.test(27, "how many in all, the LOT of the new one not", p -> {
      Bounds.two(p);
      Bounds.due(p.opened(3), 11);
      Bounds.due(p.lots(0), 12);
    });
    Bounds.test(27, "0, if the only FREE one is taken and opens none", p -> {
      p.grace(0, 0, 0);
      p.grace(0, 11, 1);
      Bounds.due(p.opened(3), 0);
      int lot = p.opens(3);
      Bounds.due(p.pairs(lot % 12, lot / 12), 1);
    });
    Bounds.test(27, "the new one on LOT 0", p -> {
      p.grace(0, 0, 1);
      p.grace(0, 1, 0);
      Bounds.due(p.opened(3), 11);
      Bounds.due(p.opens(3), 0);
    });
    Bounds.test(27, "with 9 HOUSES", p -> {
      Bounds.twoAndRuins(p, 7);
      Bounds.due(p.opened(3), 11);
    });
    Bounds.quiet(27, "nothing changes", Bounds::filled, p -> p.opened(0), p -> p.opened(6));
  }

  /** Ten houses near to one another: in how many orders so many of the first can have been built. */
  private static void village(EqualPlain p) {
    int[] at = {0, 0, 2, 0, 0, 2, 2, 2, 1, 1, 1, 0, 0, 1, 2, 1, 1, 2, 3, 3};
    for (int i = 0; i < 20; i += 2) p.grace(0, at[i], at[i + 1]);
  }

  private static void orders() {
    Bounds.test(28, "1 without HOUSES", p -> Bounds.due(p.orders(), 1));
    Bounds.test(28, "one: 1, of any KIND", p -> {
      p.grace(3, 5, 5);
      Bounds.due(p.orders(), 1);
    });
    Bounds.test(28, "two: 2, the first two may be any two, no PAIR too", p -> {
      p.grace(3, 0, 0);
      p.grace(3, 11, 3);
      Bounds.due(p.orders(), 2);
    });
    Bounds.test(28, "three: the third one's LOT FREE by the first two", p -> {
      Bounds.two(p);
      p.grace(0, 3, 7);
      Bounds.due(p.orders(), 2);
    });
    Bounds.test(28, "0, if none of three is as FAR from the others", p -> {
      p.grace(0, 0, 0);
      p.grace(0, 1, 0);
      p.grace(0, 3, 0);
      Bounds.due(p.orders(), 0);
      Bounds.due(p.status(-1), 0);
    });
    Bounds.test(28, "0, if two are as FAR from the third one, but are no PAIR", p -> {
      p.grace(1, 2, 3);
      p.grace(1, 4, 3);
      p.grace(0, 3, 7);
      Bounds.due(p.orders(), 0);
      p.change(0, 2);
      Bounds.due(p.orders(), 2);
    });
    Bounds.test(28, "two ways at once: the middle ones in either order", p -> {
      Bounds.two(p);
      p.grace(3, 3, 0);
      p.grace(3, 3, 11);
      Bounds.due(p.orders(), 4);
    });
    Bounds.test(28, "10 HOUSES", p -> {
      village(p);
      Bounds.due(p.orders(), 138624);
      int[] due = {21696, 2368, 360, 72, 24, 8, 2, 2, 1, 1};
      for (int fires = 0; fires < 10; fires++) {
        p.fire();
        Bounds.due(p.orders(), due[fires]);
      }
    });
    Bounds.test(28, "10 HOUSES: the two that found, and 8 in any order behind them", p -> {
      Bounds.two(p);
      for (int y = 0; y < 8; y++) p.grace(3, 3, y + 4);
      Bounds.due(p.orders(), 2 * 40320);
    });
    Bounds.quiet(28, "nothing changes", Bounds::filled, p -> p.orders());
  }

  private static void founders() {
    Bounds.test(29, "one: it is in the only order", p -> {
      p.grace(3, 5, 5);
      Bounds.due(p.founders(0), 1);
    });
    Bounds.test(29, "two: each in both orders", p -> {
      p.grace(3, 0, 0);
      p.grace(3, 11, 3);
      Bounds.due(p.founders(0), 2);
      Bounds.due(p.founders(1), 2);
    });
    Bounds.test(29, "three: the third is none", p -> {
      p.grace(0, 3, 7);
      Bounds.two(p);
      Bounds.due(p.founders(0), 0);
      Bounds.due(p.founders(1), 2);
      Bounds.due(p.founders(2), 2);
    });
    Bounds.test(29, "0, if there is no order", p -> {
      p.grace(0, 0, 0);
      p.grace(0, 1, 0);
      p.grace(0, 3, 0);
      for (int house = 0; house < 3; house++) Bounds.due(p.founders(house), 0);
    });
    Bounds.test(29, "10 HOUSES, the first and the last number", p -> {
      village(p);
      int[] due = {26928, 44112, 44112, 26160, 2400, 34272, 34272, 32160, 32160, 672};
      int all = 0;
      for (int house = 0; house < 10; house++) {
        Bounds.due(p.founders(house), due[house]);
        all += due[house];
      }
      Bounds.due(2 * p.orders(), all);
    });
    Bounds.refused(29, "BEYOND: no such HOUSE", Bounds.BEYOND, Bounds::filled,
        p -> p.founders(-1), p -> p.founders(4), p -> p.founders(10), p -> p.founders(Bounds.MIN), p -> p.founders(Bounds.MAX));
    Bounds.refused(29, "BEYOND: no HOUSES", Bounds.BEYOND, p -> { }, p -> p.founders(0));
    Bounds.refused(29, "BEYOND: with 10 HOUSES", Bounds.BEYOND, Bounds::ten, p -> p.founders(10));
    Bounds.quiet(29, "nothing changes", Bounds::filled, p -> p.founders(0), p -> p.founders(3));
  }

  private static void latest() {
    Bounds.refused(30, "NONE: no HOUSE", Bounds.NONE, p -> { }, p -> p.latest());
    Bounds.refused(30, "NONE: there is no order", Bounds.NONE, p -> {
      p.grace(0, 0, 0);
      p.grace(0, 1, 0);
      p.grace(0, 3, 0);
    }, p -> p.latest());
    Bounds.refused(30, "NONE: no order, though one's LOT is FREE by all the others", Bounds.NONE, p -> {
      // (3, 7) is as far from the two, but no order comes to (11, 0)
      Bounds.two(p);
      p.grace(0, 3, 7);
      p.grace(3, 11, 0);
    }, p -> p.latest());
    Bounds.test(30, "one: it", p -> {
      p.grace(3, 5, 5);
      Bounds.due(p.latest(), 0);
    });
    Bounds.test(30, "two: the greater number", p -> {
      p.grace(3, 0, 0);
      p.grace(3, 11, 3);
      Bounds.due(p.latest(), 1);
    });
    Bounds.test(30, "three: the one that can be last, though its number is the least", p -> {
      p.grace(0, 3, 7);
      Bounds.two(p);
      Bounds.due(p.latest(), 0);
    });
    Bounds.test(30, "three: the third, if the two ahead of it are HOUSES 0 and 1", p -> {
      Bounds.two(p);
      p.grace(0, 3, 7);
      Bounds.due(p.latest(), 2);
    });
    Bounds.test(30, "not a greater one that must go ahead of it", p -> {
      // (3, 2) is free by the first two, (4, 4) by (3, 2) and (2, 3) only
      Bounds.two(p);
      p.grace(3, 4, 4);
      p.grace(0, 3, 2);
      Bounds.due(p.orders(), 2);
      Bounds.due(p.latest(), 2);
    });
    Bounds.test(30, "of several the greatest number", p -> {
      p.grace(0, 3, 7);
      p.grace(0, 2, 3);
      p.grace(3, 3, 9);
      p.grace(0, 4, 3);
      Bounds.due(p.latest(), 2);
    });
    Bounds.test(30, "of 10 HOUSES the 10th", p -> {
      village(p);
      Bounds.due(p.latest(), 9);
    });
    Bounds.quiet(30, "nothing changes", HutBounds::village, p -> p.latest());
  }
}
