/** Sentences ahead of the promises and behind them ("What it is", "Terms"), by the promise that they bear on. */
final class TermBounds {
  private TermBounds() {
  }

  static void run() {
    calls();
    findings();
    houses();
    free();
    builder();
    spots();
  }

  private static void calls() {
    Bounds.test(50, "an object is used for at most 512 calls: the 512th answers", p -> {
      for (int i = 0; i < 511; i++) p.best();
      Bounds.due(p.status(-1), 511);
    });
    Bounds.test(26, "an object is used for at most 512 calls: the 512th of a dear one answers", p -> {
      Bounds.two(p);
      int opened = p.opened(0);
      for (int i = 0; i < 508; i++) Bounds.due(p.opened(i % 7) > 0 ? 1 : 0, 1);
      Bounds.due(p.opened(0), opened);
    });
    Bounds.test(24, "at most 512 calls: what one call worked out doesn't spoil the next one", p -> {
      Bounds.two(p);
      int[] due = {p.huts(4, 4), p.ever(3), p.orders(), p.opens(5), p.kindFor(1), p.ahead(60, 1), p.law(), p.hut(0, 1, 1)};
      for (int i = 0; i < 60; i++) {
        int[] got = {p.huts(4, 4), p.ever(3), p.orders(), p.opens(5), p.kindFor(1), p.ahead(60, 1), p.law(), p.hut(0, 1, 1)};
        Bounds.due(java.util.Arrays.equals(got, due) ? 1 : 0, 1);
      }
    });
  }

  private static void findings() {
    Bounds.test(38, "FINDINGS are answers below -1000000: the FAULT of a full TAPE is none", p -> {
      for (int i = 0; i < 30; i++) p.feed(0x20202020, 4);
      Bounds.due(p.text(), -121);
      Bounds.due(p.status(-1), 0);
    });
    Bounds.test(20, "of several that would do the least number counts: all that are asked so", p -> {
      // four about (5, 5), all of one kind, no WORTH: none does more than another
      p.grace(0, 5, 4);
      p.grace(0, 4, 5);
      p.grace(0, 6, 5);
      p.grace(0, 5, 6);
      Bounds.due(p.dearest(), 0);
      int free = p.best();
      for (int lot = 0; lot < free; lot++) Bounds.due(p.pairs(lot % 12, lot / 12), 0);
      Bounds.due(p.pairs(free % 12, free / 12) > 0 ? 1 : 0, 1);
      Bounds.due(p.pair(5, 5), 1);
    });
  }

  private static void houses() {
    Bounds.test(2, "HOUSES 0, 1, ..: a HOUSE has the next number, by grace, build, a YEAR and a TEXT alike", p -> {
      Bounds.two(p);
      p.coin(99999);
      p.build(1, 3, 0);
      p.seed(Bounds.seedToBuild(5, 3, 9));
      Bounds.due(p.years(1), 1);
      Bounds.due(Bounds.read(p, "inn at 7 8"), 1);
      int[] kinds = {0, 0, 1, 5, 2};
      int[] lots = {38, 40, 3, 111, 103};
      for (int house = 0; house < 5; house++) {
        Bounds.due(p.of(house, 0), kinds[house]);
        Bounds.due(12 * p.of(house, 2) + p.of(house, 1), lots[house]);
      }
      Bounds.due(p.grace(3, 11, 11), 5);
    });
    Bounds.test(2, "each on a LOT of its own, however it comes there", p -> {
      Bounds.two(p);
      p.coin(99999);
      p.strew(12);
      p.years(60);
      p.strew(12);
      Bounds.read(p, "hut at 2 3;hut at 4 3");
      long seen = 0;
      java.util.Set<Integer> lots = new java.util.TreeSet<>();
      for (int house = 0; house < p.count(1); house++) {
        lots.add(12 * p.of(house, 2) + p.of(house, 1));
        seen++;
      }
      Bounds.due(lots.size(), seen);
      Bounds.due(seen > 2 ? 1 : 0, 1);
    });
    Bounds.test(7, "WORTH of a LOT is that LOT's, x and y not taken for one another", p -> {
      Bounds.two(p);
      p.worth(3, 5, 7);
      Bounds.due(p.worth(5, 3, 0), 0);
      Bounds.due(p.best(), 63);
      p.worth(5, 3, 9);
      Bounds.due(p.sum(), 7);
      p.sheet(0, 8, 13);
      p.write(0, 12, 4);
      p.load(0);
      Bounds.due(p.worth(0, 1, 0), 4);
    });
  }

  private static void free() {
    Bounds.test(10, "FREE of that LOT then: it follows change, fire, strew, undo", p -> {
      Bounds.two(p);
      p.image();
      Bounds.due(p.lots(0), 12);
      p.change(1, 3);
      Bounds.due(p.lots(0), 0);
      p.change(1, 1);
      Bounds.due(p.lots(0), 12);
      p.fire();
      Bounds.due(p.lots(0), 0);
      p.undo();
      Bounds.due(p.lots(0), 12);
      p.seed(Bounds.seedFor(1, 2, 62, 144));
      // house 1 comes to (2, 5): as far from both is all of row 4
      Bounds.due(p.strew(1), 12);
      Bounds.due(p.row(4), 4095);
      Bounds.due(p.row(3), 0);
    });
  }

  private static void builder() {
    Bounds.test(31, "COIN may be more than 99999 by a YEAR too", p -> {
      Bounds.two(p);
      p.coin(99999);
      p.worth(3, 4, 99);
      p.seed(Bounds.seedToBuild(1, 3, 4));
      Bounds.due(p.ahead(1, 1), 100095);
      Bounds.due(p.years(1), 1);
      Bounds.due(p.count(2), 100095);
    });
    Bounds.test(31, "the WORTH of the LOT stays when one is built there", p -> {
      Bounds.two(p);
      p.worth(3, 4, 50);
      p.seed(Bounds.seedToBuild(1, 3, 4));
      p.years(1);
      Bounds.due(p.count(4), 50);
      p.fire();
      Bounds.due(p.sum(), 50);
    });
    Bounds.test(33, "built is what can be paid by then: one pays for the next", p -> {
      Bounds.two(p);
      p.coin(3);
      p.worth(3, 4, 40);
      p.seed(Bounds.seedFor(3, 12, 4, 12, 1, 7, 3, 12, 0, 12, 6, 7));
      Bounds.due(p.when(), 1);
      Bounds.due(p.ahead(2, 0), 4);
      Bounds.due(p.ahead(2, 1), 0);
      p.worth(3, 4, 39);
      Bounds.due(p.ahead(2, 0), 3);
    });
  }

  private static void spots() {
    Bounds.test(40, "a SPOT holds a HOUSE by its number: if one has that number again, it", p -> {
      Bounds.two(p);
      p.hold(4, 1);
      p.fire();
      Bounds.due(p.as(4, 0), Bounds.MISSING);
      p.grace(6, 8, 8);
      Bounds.due(p.as(4, 5), 1);
      Bounds.due(p.as(4, 1), Bounds.KIND);
    });
  }
}
