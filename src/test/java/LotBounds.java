/** The boundary cases of the terms of lots, and of promises 10 to 17. */
final class LotBounds {
  private LotBounds() {
  }

  static void run() {
    free();
    border();
    pairs();
    pair();
    row();
    lots();
    only();
    ever();
    sum();
    best();
  }

  private static void free() {
    Bounds.test(10, "FREE: as FAR from the one as from the other one, of unlike KINDS", p -> {
      p.grace(4, 0, 5);
      p.grace(5, 5, 5);
      // the church is 9 + 16 + 1 away from (3, 1); of the streeted one 4 + 16 and 8 a side are not 26
      Bounds.due(p.far(0, 3, 1), 26);
      Bounds.due(p.pairs(3, 1), 0);
      p.change(0, 0);
      p.grace(6, 0, 0);
      // tower (0, 0) from (1, 2): 8; house (0, 5): 10; streeted (5, 5): 49
      Bounds.due(p.pairs(1, 2), 0);
      p.change(2, 5);
      // streeted (0, 0) from (5, 0) and streeted (5, 5): 25 both
      Bounds.due(p.pairs(5, 0), 1);
      p.change(2, 6);
      Bounds.due(p.pairs(5, 0), 0);
    });
    Bounds.test(10, "FREE: an even distance of two that are no PAIR doesn't do", p -> {
      p.grace(1, 2, 3);
      p.grace(1, 4, 3);
      Bounds.due(p.far(0, 3, 3) - p.far(1, 3, 3), 0);
      Bounds.due(p.pairs(3, 3), 0);
      p.change(1, 3);
      Bounds.due(p.pairs(3, 3), 0);
      p.change(1, 0);
      Bounds.due(p.pairs(3, 3), 1);
    });
    Bounds.test(10, "FREE: an INN too far from the other is no PAIR, though just as FAR from the LOT", p -> {
      p.grace(2, 0, 0);
      p.grace(0, 8, 0);
      Bounds.due(p.pairs(4, 9), 1);
      p.fire();
      p.grace(0, 10, 0);
      Bounds.due(p.far(0, 5, 9) - p.far(1, 5, 9), 0);
      Bounds.due(p.pairs(5, 9), 0);
    });
  }

  /** Behind the border (0, 12) would be free, and on the plain nothing is: ruins stand there. */
  private static void behindTheEnd(EqualPlain p) {
    p.grace(0, 8, 11);
    p.grace(0, 7, 8);
    p.grace(3, 3, 11);
    p.grace(3, 6, 10);
    p.grace(3, 9, 9);
  }

  /** Ahead of the border (-1, 0) would be free, and on the plain nothing is: ruins stand there. */
  private static void aheadOfTheBegin(EqualPlain p) {
    p.grace(0, 0, 7);
    p.grace(0, 4, 5);
    for (int x = 0; x < 5; x++) p.grace(3, x, 2 * x + 2);
  }

  private static void border() {
    Bounds.test(13, "no LOT behind the border counts", p -> {
      p.grace(0, 1, 10);
      p.grace(0, 2, 11);
      // x + y 12: from (1, 11) to (11, 1)
      Bounds.due(p.lots(0), 11);
      Bounds.due(p.lots(1), 11);
      Bounds.due(p.loses(0), 11);
    });
    Bounds.test(13, "no LOT ahead of the border counts", p -> {
      p.grace(0, 0, 2);
      p.grace(0, 1, 1);
      // y is x + 1: from (0, 1) to (10, 11)
      Bounds.due(p.lots(0), 11);
      Bounds.due(p.lots(1), 11);
      Bounds.due(p.loses(0), 11);
    });
    Bounds.refused(17, "NONE: just a LOT behind the border would be FREE", Bounds.NONE, LotBounds::behindTheEnd,
        p -> p.best(), p -> p.opens(0), p -> p.opened(0));
    Bounds.refused(17, "NONE: just a LOT ahead of the border would be FREE", Bounds.NONE, LotBounds::aheadOfTheBegin,
        p -> p.best(), p -> p.opens(0), p -> p.opened(0));
    Bounds.test(15, "none behind the border opens one", p -> {
      behindTheEnd(p);
      for (int what = 0; what < 3; what++) Bounds.due(p.lots(what), 0);
      Bounds.due(p.huts(0, 0), Bounds.NONE);
    });
    Bounds.test(15, "none ahead of the border opens one", p -> {
      aheadOfTheBegin(p);
      for (int what = 0; what < 3; what++) Bounds.due(p.lots(what), 0);
      Bounds.due(p.huts(0, 0), Bounds.NONE);
    });
  }

  private static void pairs() {
    Bounds.test(10, "10 HOUSES as FAR from a LOT: 45 PAIRS", p -> {
      Bounds.circle(p);
      Bounds.due(p.pairs(5, 5), 45);
      Bounds.due(p.count(3), 45);
    });
    Bounds.test(10, "0, if one stands there", p -> {
      Bounds.circle(p);
      p.fire();
      Bounds.due(p.pairs(5, 5), 36);
      p.grace(3, 5, 5);
      Bounds.due(p.pairs(5, 5), 0);
    });
    Bounds.test(10, "0 without HOUSES and with one", p -> {
      Bounds.due(p.pairs(0, 0), 0);
      p.grace(0, 5, 5);
      Bounds.due(p.pairs(0, 0), 0);
      Bounds.due(p.pairs(5, 5), 0);
    });
    Bounds.test(10, "x 0 and 11, y 0 and 11 are taken", p -> {
      p.grace(0, 0, 1);
      p.grace(0, 1, 0);
      p.grace(0, 10, 0);
      p.grace(0, 11, 1);
      Bounds.due(p.pairs(0, 0), 1);
      Bounds.due(p.pairs(11, 11), 1);
      Bounds.due(p.pairs(11, 0), 1);
      Bounds.due(p.pairs(0, 11), 1);
    });
    Bounds.refused(10, "BEYOND: x below 0", Bounds.BEYOND, Bounds::filled, p -> p.pairs(-1, 4), p -> p.pairs(-9, 4), p -> p.pairs(Bounds.MIN, 4));
    Bounds.refused(10, "BEYOND: x above 11", Bounds.BEYOND, Bounds::filled, p -> p.pairs(12, 4), p -> p.pairs(15, 4), p -> p.pairs(Bounds.MAX, 4));
    Bounds.refused(10, "BEYOND: y below 0", Bounds.BEYOND, Bounds::filled, p -> p.pairs(3, -1), p -> p.pairs(3, Bounds.MIN));
    Bounds.refused(10, "BEYOND: y above 11", Bounds.BEYOND, Bounds::filled, p -> p.pairs(3, 12), p -> p.pairs(3, Bounds.MAX));
  }

  private static void pair() {
    Bounds.test(11, "the first: 0 and 1; the last that can be: 8 and 9", p -> {
      Bounds.circle(p);
      Bounds.due(p.pair(5, 5), 1);
      for (int house = 0; house < 8; house++) p.change(house, 3);
      Bounds.due(p.pair(5, 5), 89);
    });
    Bounds.test(11, "by the lesser number ahead of the other one", p -> {
      p.grace(0, 4, 3);
      p.grace(0, 5, 2);
      p.grace(0, 5, 4);
      p.grace(0, 8, 3);
      // from (6, 3): 4, 2, 2, 4
      Bounds.due(p.pairs(6, 3), 2);
      Bounds.due(p.pair(6, 3), 3);
    });
    Bounds.test(11, "not one that is nearer than the other one, nor farther", p -> {
      p.grace(0, 5, 3);
      p.grace(0, 9, 3);
      p.grace(0, 3, 3);
      p.grace(0, 6, 1);
      p.grace(0, 6, 5);
      // from (6, 3): 1, 9, 9, 4, 4
      Bounds.due(p.pairs(6, 3), 2);
      Bounds.due(p.pair(6, 3), 12);
      p.change(1, 3);
      Bounds.due(p.pair(6, 3), 34);
    });
    Bounds.test(11, "then by the other one", p -> {
      p.grace(0, 5, 3);
      p.grace(3, 7, 3);
      p.grace(0, 6, 2);
      p.grace(0, 6, 4);
      Bounds.due(p.pair(6, 3), 2);
    });
    Bounds.refused(11, "NONE: it isn't FREE: as far from no two", Bounds.NONE, Bounds::filled, p -> p.pair(4, 4), p -> p.pair(0, 0));
    Bounds.refused(11, "NONE: it isn't FREE: one stands there", Bounds.NONE, p -> {
      Bounds.filled(p);
      p.grace(3, 3, 4);
    }, p -> p.pair(3, 4), p -> p.pair(2, 3));
    Bounds.refused(11, "NONE: no HOUSES", Bounds.NONE, p -> { }, p -> p.pair(0, 0), p -> p.pair(11, 11));
    Bounds.refused(11, "BEYOND: x below 0", Bounds.BEYOND, Bounds::filled, p -> p.pair(-1, 4), p -> p.pair(-9, 4), p -> p.pair(Bounds.MIN, 4));
    Bounds.refused(11, "BEYOND: x above 11", Bounds.BEYOND, Bounds::filled, p -> p.pair(12, 4), p -> p.pair(15, 4), p -> p.pair(Bounds.MAX, 4));
    Bounds.refused(11, "BEYOND: y below 0", Bounds.BEYOND, Bounds::filled, p -> p.pair(3, -1), p -> p.pair(3, Bounds.MIN));
    Bounds.refused(11, "BEYOND: y above 11", Bounds.BEYOND, Bounds::filled, p -> p.pair(3, 12), p -> p.pair(3, Bounds.MAX));
  }

  private static void row() {
    Bounds.test(12, "y 0 and 11 are taken", p -> {
      Bounds.two(p);
      Bounds.due(p.row(0), 8);
      Bounds.due(p.row(11), 8);
    });
    Bounds.test(12, "a full row: bits 0 to 11", p -> {
      p.grace(0, 5, 4);
      p.grace(0, 5, 6);
      Bounds.due(p.row(5), 4095);
      p.grace(3, 0, 5);
      p.grace(3, 11, 5);
      Bounds.due(p.row(5), 2046);
    });
    Bounds.test(12, "an empty row", p -> {
      Bounds.due(p.row(0), 0);
      Bounds.due(p.row(11), 0);
      p.grace(0, 5, 4);
      Bounds.due(p.row(4), 0);
      p.grace(0, 5, 6);
      Bounds.due(p.row(4), 0);
      Bounds.due(p.row(6), 0);
    });
    Bounds.refused(12, "BEYOND: y below 0", Bounds.BEYOND, Bounds::filled, p -> p.row(-1), p -> p.row(Bounds.MIN));
    Bounds.refused(12, "BEYOND: y above 11", Bounds.BEYOND, Bounds::filled, p -> p.row(12), p -> p.row(Bounds.MAX));
  }

  private static void lots() {
    Bounds.test(13, "what 0, 1, 2 without HOUSES and with one: 0", p -> {
      for (int what = 0; what < 3; what++) Bounds.due(p.lots(what), 0);
      p.grace(0, 5, 5);
      for (int what = 0; what < 3; what++) Bounds.due(p.lots(what), 0);
    });
    Bounds.test(13, "what 0: one on which one stands isn't counted", p -> {
      Bounds.two(p);
      Bounds.due(p.lots(0), 12);
      p.grace(3, 3, 0);
      p.grace(3, 3, 11);
      Bounds.due(p.lots(0), 10);
    });
    Bounds.test(13, "what 1: just one PAIR, not two", p -> {
      Bounds.two(p);
      p.grace(0, 2, 4);
      p.grace(0, 4, 4);
      // x 3 by two pairs; no row lies between y 3 and 4; across, 2 3 and 4 4 (and 4 3, 2 4): lines through (3, 3.5)
      Bounds.due(p.pairs(3, 0), 2);
      Bounds.due(p.lots(0) - p.lots(1), 12);
    });
    Bounds.test(13, "what 1: each that is FREE by one, LOT 0 and LOT 143 too", p -> {
      p.grace(0, 0, 1);
      p.grace(0, 1, 0);
      Bounds.due(p.lots(0), 12);
      Bounds.due(p.lots(1), 12);
      Bounds.due(p.lots(2), 142);
    });
    Bounds.test(13, "what 1: some by one, some by two, one by six", p -> {
      Bounds.two(p);
      p.grace(0, 3, 2);
      p.grace(0, 3, 4);
      // beside (3, 3): 9 of x 3 and 9 of y 3 by one pair, 11 and 6 of the diagonals by two
      Bounds.due(p.lots(0), 1 + 9 + 9 + 11 + 6);
      Bounds.due(p.lots(1), 9 + 9);
    });
    Bounds.test(13, "what 2: those on which one stands not counted", p -> {
      Bounds.two(p);
      Bounds.due(p.lots(2), 142);
      p.grace(3, 0, 0);
      Bounds.due(p.lots(2), 141);
    });
    Bounds.refused(13, "BEYOND: what below 0", Bounds.BEYOND, Bounds::filled, p -> p.lots(-1), p -> p.lots(Bounds.MIN));
    Bounds.refused(13, "BEYOND: what above 2", Bounds.BEYOND, Bounds::filled, p -> p.lots(3), p -> p.lots(Bounds.MAX));
    Bounds.quiet(13, "nothing is put up", Bounds::filled, p -> p.lots(0), p -> p.lots(1), p -> p.lots(2));
  }

  private static void only() {
    Bounds.test(14, "y 0 and 11 are taken", p -> {
      Bounds.two(p);
      Bounds.due(p.only(0), 8);
      Bounds.due(p.only(11), 8);
    });
    Bounds.test(14, "bits 0 to 11; by two PAIRS not, where one stands not", p -> {
      p.grace(0, 5, 4);
      p.grace(0, 5, 6);
      Bounds.due(p.only(5), 4095);
      p.grace(0, 7, 4);
      // (6, 5) is 2 from three: three pairs
      Bounds.due(p.pairs(6, 5), 3);
      Bounds.due(p.only(5) >> 6 & 1, 0);
      p.grace(3, 0, 5);
      p.grace(3, 11, 5);
      Bounds.due(p.only(5) & 0b100000000001, 0);
    });
    Bounds.test(14, "a row beside a full one is empty", p -> {
      p.grace(0, 5, 4);
      p.grace(0, 5, 6);
      Bounds.due(p.only(4), 0);
      Bounds.due(p.only(6), 0);
    });
    Bounds.test(14, "an empty row", p -> {
      Bounds.due(p.only(0), 0);
      Bounds.two(p);
      p.grace(0, 2, 8);
      p.grace(0, 4, 8);
      Bounds.due(p.row(0) & 8, 8);
      Bounds.due(p.only(0) & 8, 0);
    });
    Bounds.refused(14, "BEYOND: y below 0", Bounds.BEYOND, Bounds::filled, p -> p.only(-1), p -> p.only(Bounds.MIN));
    Bounds.refused(14, "BEYOND: y above 11", Bounds.BEYOND, Bounds::filled, p -> p.only(12), p -> p.only(Bounds.MAX));
  }

  private static void ever() {
    Bounds.test(15, "y 0 and 11 are taken; all lots can be had from two", p -> {
      Bounds.two(p);
      Bounds.due(p.ever(0), 4095);
      Bounds.due(p.ever(11), 4095);
    });
    Bounds.test(15, "not those on which one stands", p -> {
      Bounds.two(p);
      Bounds.due(p.ever(3), 4095 & ~4 & ~16);
      p.grace(3, 0, 3);
      p.grace(3, 11, 3);
      Bounds.due(p.ever(3), 2046 & ~4 & ~16);
    });
    Bounds.test(15, "none without a FREE LOT", p -> {
      for (int y = 0; y < 12; y++) Bounds.due(p.ever(y), 0);
      p.grace(0, 0, 0);
      p.grace(0, 1, 0);
      // odd and even never meet: no lot is as far from both
      for (int y = 0; y < 12; y++) Bounds.due(p.ever(y), 0);
    });
    Bounds.test(15, "one that is FREE and opens nothing", p -> {
      p.grace(0, 0, 0);
      p.grace(0, 11, 1);
      Bounds.due(p.lots(0), 1);
      int had = 0;
      for (int y = 0; y < 12; y++) {
        Bounds.due(p.ever(y), p.row(y));
        had += Integer.bitCount(p.ever(y));
      }
      Bounds.due(had, 1);
    });
    Bounds.test(15, "the one that is FREE opens one, together with one that stands", p -> {
      p.grace(6, 7, 0);
      p.grace(2, 2, 0);
      p.grace(2, 11, 11);
      everIs(p, 94, 102);
      Bounds.due(p.lots(0), 1);
    });
    Bounds.test(15, "two that are FREE open one, and no other", p -> {
      p.grace(0, 2, 1);
      p.grace(1, 6, 11);
      everIs(p, 57, 76, 119);
      Bounds.due(p.lots(0), 2);
    });
    Bounds.test(15, "two that are FREE open seven, LOT 0 among them, bit by bit", p -> {
      p.grace(0, 9, 7);
      p.grace(0, 10, 2);
      everIs(p, 0, 17, 38, 55, 76, 97, 114, 131, 135);
      Bounds.due(p.lots(0), 2);
    });
    Bounds.test(15, "also those that more than 2 must go ahead of", p -> {
      p.grace(0, 0, 0);
      p.grace(0, 1, 1);
      Bounds.due(p.huts(11, 10), Bounds.NONE);
      Bounds.due(p.ever(10), 4095);
      Bounds.due(p.lots(2), 142);
    });
    Bounds.test(15, "COIN isn't asked", p -> {
      Bounds.two(p);
      p.coin(0);
      Bounds.due(p.ever(0), 4095);
    });
    Bounds.test(15, "10 isn't asked", p -> {
      Bounds.ten(p);
      Bounds.due(p.ever(0), 4095);
      Bounds.due(p.lots(2), 134);
    });
    Bounds.test(15, "those put up are of KIND 0, whatever stands", p -> {
      p.grace(1, 2, 3);
      p.grace(5, 4, 3);
      Bounds.due(p.lots(0) > 0 ? 1 : 0, 1);
      NaiveModel model = new NaiveModel();
      model.grace(1, 2, 3);
      model.grace(5, 4, 3);
      for (int y = 0; y < 12; y++) Bounds.due(p.ever(y), model.ever(y));
    });
    Bounds.refused(15, "BEYOND: y below 0", Bounds.BEYOND, Bounds::filled, p -> p.ever(-1), p -> p.ever(Bounds.MIN));
    Bounds.refused(15, "BEYOND: y above 11", Bounds.BEYOND, Bounds::filled, p -> p.ever(12), p -> p.ever(Bounds.MAX));
    Bounds.quiet(15, "nothing is put up", Bounds::filled, p -> p.ever(0), p -> p.ever(11));
  }

  /** These lots can be had ever, and no other one. */
  private static void everIs(EqualPlain p, int... lots) {
    int[] rows = new int[12];
    for (int lot : lots) rows[lot / 12] |= 1 << lot % 12;
    for (int y = 0; y < 12; y++) Bounds.due(p.ever(y), rows[y]);
    Bounds.due(p.lots(2), lots.length);
  }

  private static void sum() {
    Bounds.test(16, "0 where none is FREE", p -> {
      p.worth(0, 0, 99);
      Bounds.due(p.sum(), 0);
      p.grace(0, 0, 0);
      Bounds.due(p.sum(), 0);
    });
    Bounds.test(16, "the first and the last row, not where one stands, not beside", p -> {
      Bounds.two(p);
      p.worth(3, 0, 99);
      p.worth(3, 11, 98);
      p.worth(2, 3, 50);
      p.worth(5, 5, 50);
      Bounds.due(p.sum(), 197);
      p.grace(3, 3, 11);
      Bounds.due(p.sum(), 99);
    });
    Bounds.test(16, "LOT 0 and LOT 143", p -> {
      p.grace(0, 0, 1);
      p.grace(0, 1, 0);
      p.worth(0, 0, 3);
      p.worth(11, 11, 4);
      Bounds.due(p.sum(), 7);
    });
  }

  private static void best() {
    Bounds.refused(17, "NONE: no HOUSES", Bounds.NONE, p -> { }, p -> p.best());
    Bounds.refused(17, "NONE: no LOT is FREE, though there is WORTH", Bounds.NONE, p -> {
      Bounds.tenRuins(p);
      p.worth(3, 3, 9);
    }, p -> p.best());
    Bounds.test(17, "all of WORTH 0: the least number", p -> {
      Bounds.two(p);
      Bounds.due(p.best(), 3);
      p.grace(3, 3, 0);
      Bounds.due(p.best(), 15);
    });
    Bounds.test(17, "of several with most the least number", p -> {
      Bounds.two(p);
      p.worth(3, 0, 8);
      p.worth(3, 5, 9);
      p.worth(3, 11, 9);
      Bounds.due(p.best(), 63);
      p.worth(3, 11, 10);
      Bounds.due(p.best(), 135);
    });
    Bounds.test(17, "LOT 0 and LOT 143", p -> {
      p.grace(0, 0, 1);
      p.grace(0, 1, 0);
      Bounds.due(p.best(), 0);
      p.worth(11, 11, 1);
      Bounds.due(p.best(), 143);
    });
    Bounds.test(17, "not one that isn't FREE, nor where one stands", p -> {
      Bounds.two(p);
      p.worth(5, 5, 99);
      p.worth(2, 3, 99);
      p.worth(3, 9, 1);
      Bounds.due(p.best(), 111);
    });
  }
}
