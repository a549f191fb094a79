/** The boundary cases of the terms of years and draws, and of promises 31 to 35. */
final class YearBounds {
  private YearBounds() {
  }

  static void run() {
    years();
    builder();
    ahead();
    when();
    strew();
    seed();
  }

  private static void years() {
    Bounds.test(31, "n 1 and 60 are taken", p -> {
      Bounds.due(p.years(1), 0);
      Bounds.due(p.count(0), 1);
      Bounds.due(p.years(60), 0);
      Bounds.due(p.count(0), 61);
    });
    Bounds.refused(31, "BEYOND: n below 1", Bounds.BEYOND, Bounds::filled, p -> p.years(0), p -> p.years(-1), p -> p.years(Bounds.MIN));
    Bounds.refused(31, "BEYOND: n above 60", Bounds.BEYOND, Bounds::filled, p -> p.years(61), p -> p.years(Bounds.MAX));
    Bounds.test(31, "YEAR may become 9999", p -> {
      Bounds.toYear(p, 9939);
      Bounds.due(p.years(60), 0);
      Bounds.due(p.count(0), 9999);
      EqualPlain other = new EqualPlain();
      Bounds.toYear(other, 9998);
      Bounds.due(other.years(1), 0);
      Bounds.due(other.count(0), 9999);
    });
    Bounds.refused(31, "STATE: YEAR would be 10000", Bounds.STATE, p -> Bounds.toYear(p, 9940), p -> p.years(60));
    Bounds.refused(31, "STATE: YEAR is 9999", Bounds.STATE, p -> Bounds.toYear(p, 9999), p -> p.years(1), p -> p.years(60));
    Bounds.refused(31, "BEYOND goes ahead of STATE", Bounds.BEYOND, p -> Bounds.toYear(p, 9999),
        p -> p.years(0), p -> p.years(61), p -> p.years(Bounds.MAX));
    Bounds.test(31, "how many are built in them, those ahead not", p -> {
      Bounds.two(p);
      p.coin(99999);
      p.seed(Bounds.seedFor(3, 12, 0, 12, 0, 7, 3, 12, 1, 12, 0, 7));
      Bounds.due(p.years(2), 2);
      Bounds.due(p.count(1), 4);
      Bounds.due(p.of(2, 2), 0);
      Bounds.due(p.of(3, 2), 1);
      p.seed(Bounds.seedToBuild(3, 2, 3));
      Bounds.due(p.years(1), 0);
    });
  }

  private static void builder() {
    Bounds.test(31, "a draw makes z z * 1103515245 + 12345, an int that goes round", p -> {
      p.years(1);
      Bounds.due(p.count(6), Bounds.drawn(1, 3));
      p.seed(Bounds.MAX);
      p.years(1);
      Bounds.due(p.count(6), Bounds.drawn(Bounds.MAX, 3));
      p.seed(Bounds.MIN);
      p.years(60);
      Bounds.due(p.count(6), Bounds.drawn(Bounds.MIN, 180));
    });
    Bounds.test(31, "a draw gives z >>> 8: of a z below 0 too it is 0 or more", p -> {
      Bounds.two(p);
      int seed = 0;
      while (Bounds.drawn(seed, 1) >= 0 || Bounds.drawn(seed, 2) >= 0 || Bounds.drawn(seed, 3) >= 0
          || (Bounds.drawn(seed, 1) >>> 8) % 12 != 3) seed++;
      p.seed(seed);
      p.coin(99999);
      Bounds.due(p.years(1), 1);
      Bounds.due(p.of(2, 1), 3);
      Bounds.due(p.of(2, 2), (Bounds.drawn(seed, 2) >>> 8) % 12);
      Bounds.due(p.of(2, 0), (Bounds.drawn(seed, 3) >>> 8) % 7);
    });
    Bounds.test(31, "x by 12, y by 12, KIND by 7: 0 and the greatest rest", p -> {
      p.grace(0, 0, 1);
      p.grace(0, 1, 0);
      p.seed(Bounds.seedToBuild(0, 0, 0));
      Bounds.due(p.years(1), 1);
      Bounds.due(p.of(2, 0) + p.of(2, 1) + p.of(2, 2), 0);
      p.seed(Bounds.seedToBuild(6, 11, 11));
      Bounds.due(p.years(1), 1);
      Bounds.due(p.of(3, 0), 6);
      Bounds.due(p.of(3, 1) + p.of(3, 2), 22);
    });
    Bounds.test(31, "not built: the LOT isn't FREE; z and YEAR go on", p -> {
      Bounds.two(p);
      int seed = Bounds.seedToBuild(0, 4, 4);
      p.seed(seed);
      Bounds.due(p.years(1), 0);
      Bounds.due(p.count(1), 2);
      Bounds.due(p.count(2), 100);
      Bounds.due(p.count(0), 1);
      Bounds.due(p.count(6), Bounds.drawn(seed, 3));
    });
    Bounds.test(31, "not built: one stands there", p -> {
      Bounds.two(p);
      p.grace(3, 3, 4);
      p.seed(Bounds.seedToBuild(0, 3, 4));
      Bounds.due(p.years(1), 0);
      Bounds.due(p.count(1), 3);
    });
    Bounds.test(31, "not built: there are 10 HOUSES; z and YEAR go on", p -> {
      Bounds.ten(p);
      int seed = Bounds.seedToBuild(0, 3, 4);
      p.seed(seed);
      Bounds.due(p.years(1), 0);
      Bounds.due(p.count(1), 10);
      Bounds.due(p.count(2), 100);
      Bounds.due(p.count(6), Bounds.drawn(seed, 3));
    });
    Bounds.test(31, "built: the 10th", p -> {
      Bounds.twoAndRuins(p, 7);
      p.seed(Bounds.seedToBuild(0, 3, 4));
      Bounds.due(p.years(1), 1);
      Bounds.due(p.count(1), 10);
    });
    Bounds.test(31, "built for just what it COSTS, the WORTH of the LOT more", p -> {
      Bounds.two(p);
      p.coin(25);
      p.worth(3, 4, 99);
      p.seed(Bounds.seedToBuild(4, 3, 4));
      Bounds.due(p.years(1), 1);
      Bounds.due(p.count(2), 99);
    });
    Bounds.test(31, "not built: COIN is 1 below what it COSTS, whatever the WORTH; z goes on", p -> {
      Bounds.two(p);
      p.coin(24);
      p.worth(3, 4, 99);
      int seed = Bounds.seedToBuild(4, 3, 4);
      p.seed(seed);
      Bounds.due(p.years(1), 0);
      Bounds.due(p.count(2), 24);
      Bounds.due(p.count(6), Bounds.drawn(seed, 3));
    });
    Bounds.test(31, "not built without HOUSES", p -> {
      Bounds.due(p.years(60), 0);
      Bounds.due(p.count(1), 0);
    });
  }

  private static void ahead() {
    Bounds.test(32, "n 0: all as it is now", p -> {
      Bounds.two(p);
      p.coin(77);
      Bounds.due(p.ahead(0, 0), 2);
      Bounds.due(p.ahead(0, 1), 77);
      Bounds.due(p.ahead(0, 2), 12);
    });
    Bounds.test(32, "n 60 is taken: as 60 YEARS", p -> {
      Bounds.two(p);
      p.coin(99999);
      int houses = p.ahead(60, 0);
      int coin = p.ahead(60, 1);
      int free = p.ahead(60, 2);
      Bounds.due(p.years(60), houses - 2);
      Bounds.due(p.count(1), houses);
      Bounds.due(p.count(2), coin);
      Bounds.due(p.lots(0), free);
    });
    Bounds.test(32, "n 1: with and without the last draw", p -> {
      Bounds.two(p);
      p.seed(Bounds.seedFor(4, 12, 4, 12, 0, 7, 3, 12, 4, 12, 1, 7));
      Bounds.due(p.ahead(1, 0), 2);
      Bounds.due(p.ahead(2, 0), 3);
      Bounds.due(p.ahead(2, 1), 97);
    });
    Bounds.refused(32, "BEYOND: n below 0", Bounds.BEYOND, Bounds::filled, p -> p.ahead(-1, 0), p -> p.ahead(Bounds.MIN, 0));
    Bounds.refused(32, "BEYOND: n above 60", Bounds.BEYOND, Bounds::filled, p -> p.ahead(61, 0), p -> p.ahead(Bounds.MAX, 0));
    Bounds.refused(32, "BEYOND: what below 0", Bounds.BEYOND, Bounds::filled, p -> p.ahead(0, -1), p -> p.ahead(9, Bounds.MIN));
    Bounds.refused(32, "BEYOND: what above 2", Bounds.BEYOND, Bounds::filled, p -> p.ahead(0, 3), p -> p.ahead(9, Bounds.MAX));
    Bounds.test(32, "AHEAD to YEAR 9999", p -> {
      Bounds.toYear(p, 9939);
      Bounds.due(p.ahead(60, 0), 0);
      Bounds.toYear(p, 9999);
      Bounds.due(p.ahead(0, 1), 100);
    });
    Bounds.refused(32, "STATE: YEAR would be 10000", Bounds.STATE, p -> Bounds.toYear(p, 9940), p -> p.ahead(60, 0));
    Bounds.refused(32, "STATE: YEAR is 9999", Bounds.STATE, p -> Bounds.toYear(p, 9999), p -> p.ahead(1, 0));
    Bounds.refused(32, "BEYOND goes ahead of STATE", Bounds.BEYOND, p -> Bounds.toYear(p, 9999),
        p -> p.ahead(61, 0), p -> p.ahead(60, 3), p -> p.ahead(1, -1));
    Bounds.quiet(32, "nothing changes, z goes on there alone", p -> {
      Bounds.filled(p);
      p.seed(Bounds.seedToBuild(0, 3, 4));
    }, p -> p.ahead(60, 0), p -> p.ahead(60, 1), p -> p.ahead(60, 2), p -> p.ahead(0, 0));
  }

  private static void when() {
    Bounds.test(33, "1: the next YEAR", p -> {
      Bounds.two(p);
      p.seed(Bounds.seedToBuild(1, 3, 4));
      Bounds.due(p.when(), 1);
    });
    Bounds.test(33, "99 YEARS", p -> {
      Bounds.two(p);
      p.seed(47413);
      Bounds.due(p.when(), 99);
      p.years(60);
      Bounds.due(p.years(38), 0);
      Bounds.due(p.years(1), 1);
    });
    Bounds.refused(33, "NONE: the next is built behind 100 YEARS", Bounds.NONE, p -> {
      Bounds.two(p);
      p.seed(36881);
    }, p -> p.when());
    Bounds.test(33, "it would be the 100th", p -> {
      Bounds.two(p);
      p.seed(36881);
      Bounds.due(p.years(60), 0);
      Bounds.due(p.years(39), 0);
      Bounds.due(p.years(1), 1);
    });
    Bounds.refused(33, "NONE: no HOUSES", Bounds.NONE, p -> { }, p -> p.when());
    Bounds.refused(33, "NONE: there are 10 HOUSES", Bounds.NONE, p -> {
      Bounds.ten(p);
      p.seed(Bounds.seedToBuild(1, 3, 4));
    }, p -> p.when());
    Bounds.refused(33, "NONE: COIN is below all that it COSTS", Bounds.NONE, p -> {
      Bounds.two(p);
      p.coin(2);
      p.seed(Bounds.seedToBuild(1, 3, 4));
    }, p -> p.when());
    Bounds.test(33, "YEAR 9900 will do", p -> {
      Bounds.toYear(p, 9900);
      Bounds.two(p);
      p.seed(Bounds.seedToBuild(1, 3, 4));
      Bounds.due(p.when(), 1);
      p.fire();
      p.seed(47413);
      Bounds.due(p.when(), Bounds.NONE);
    });
    Bounds.refused(33, "STATE: YEAR is above 9900", Bounds.STATE, p -> {
      Bounds.two(p);
      p.seed(Bounds.seedToBuild(4, 0, 0));
      p.coin(0);
      Bounds.toYear(p, 9901);
      p.coin(100);
      p.seed(Bounds.seedToBuild(1, 3, 4));
    }, p -> p.when());
    Bounds.refused(33, "STATE: YEAR is 9999", Bounds.STATE, p -> Bounds.toYear(p, 9999), p -> p.when());
    Bounds.quiet(33, "nothing changes, z goes on there alone", p -> {
      Bounds.filled(p);
      p.seed(Bounds.seedToBuild(0, 3, 4));
    }, p -> p.when());
  }

  private static void strew() {
    Bounds.test(34, "n 1: two draws, n 12: 24 draws", p -> {
      p.grace(0, 5, 5);
      p.strew(1);
      Bounds.due(p.count(6), Bounds.drawn(1, 2));
      p.strew(12);
      Bounds.due(p.count(6), Bounds.drawn(1, 26));
    });
    Bounds.refused(34, "BEYOND: n below 1", Bounds.BEYOND, Bounds::filled, p -> p.strew(0), p -> p.strew(-1), p -> p.strew(Bounds.MIN));
    Bounds.refused(34, "BEYOND: n above 12", Bounds.BEYOND, Bounds::filled, p -> p.strew(13), p -> p.strew(Bounds.MAX));
    Bounds.refused(34, "STATE: there are no HOUSES", Bounds.STATE, p -> { }, p -> p.strew(1), p -> p.strew(12));
    Bounds.refused(34, "BEYOND goes ahead of STATE", Bounds.BEYOND, p -> { }, p -> p.strew(0), p -> p.strew(13));
    Bounds.test(34, "to LOT 0 and to LOT 143; of one HOUSE the rest is 0", p -> {
      p.grace(4, 5, 5);
      p.seed(Bounds.seedFor(0, 1, 0, 144));
      Bounds.due(p.strew(1), 0);
      Bounds.due(p.of(0, 1) + p.of(0, 2), 0);
      p.seed(Bounds.seedFor(0, 1, 143, 144));
      p.strew(1);
      Bounds.due(p.of(0, 1) * 100 + p.of(0, 2), 1111);
      Bounds.due(p.of(0, 0), 4);
    });
    Bounds.test(34, "of 10 HOUSES the last one", p -> {
      Bounds.ten(p);
      p.seed(Bounds.seedFor(9, 10, 0, 144));
      Bounds.due(p.strew(1), p.lots(0));
      Bounds.due(p.of(9, 1) + p.of(9, 2), 0);
      Bounds.due(p.of(8, 1), 5);
    });
    Bounds.test(34, "it stays if another one stands there; z goes on", p -> {
      Bounds.two(p);
      int seed = Bounds.seedFor(0, 2, 40, 144);
      p.seed(seed);
      Bounds.due(p.strew(1), 12);
      Bounds.due(p.of(0, 1) * 100 + p.of(0, 2), 203);
      Bounds.due(p.of(1, 1) * 100 + p.of(1, 2), 403);
      Bounds.due(p.count(6), Bounds.drawn(seed, 2));
    });
    Bounds.test(34, "it stays on its own LOT", p -> {
      Bounds.two(p);
      p.seed(Bounds.seedFor(1, 2, 40, 144));
      Bounds.due(p.strew(1), 12);
      Bounds.due(p.of(1, 1) * 100 + p.of(1, 2), 403);
    });
    Bounds.test(34, "a LOT need not be FREE; FREE LOTS then", p -> {
      Bounds.two(p);
      Bounds.due(p.pairs(4, 5), 0);
      p.seed(Bounds.seedFor(1, 2, 64, 144));
      int free = p.strew(1);
      Bounds.due(p.of(1, 1) * 100 + p.of(1, 2), 405);
      Bounds.due(p.lots(0), free);
      Bounds.due(free == 12 ? 1 : 0, 0);
    });
    Bounds.test(34, "COIN and YEAR stay", p -> {
      Bounds.filled(p);
      p.strew(12);
      Bounds.due(p.count(0), 6);
      Bounds.due(p.count(2), 345);
      Bounds.due(p.count(1), 4);
    });
    Bounds.test(34, "a draw of a z below 0 too gives a HOUSE and a LOT", p -> {
      Bounds.two(p);
      int seed = 0;
      while (Bounds.drawn(seed, 1) >= 0 || Bounds.drawn(seed, 2) >= 0 || (Bounds.drawn(seed, 2) >>> 8) % 144 == 40) seed++;
      p.seed(seed);
      p.strew(1);
      int house = (Bounds.drawn(seed, 1) >>> 8) % 2;
      Bounds.due(12 * p.of(house, 2) + p.of(house, 1), (Bounds.drawn(seed, 2) >>> 8) % 144);
    });
  }

  private static void seed() {
    Bounds.test(35, "any int: the least, the greatest, 0, -1", p -> {
      Bounds.due(p.seed(Bounds.MIN), 1);
      Bounds.due(p.seed(Bounds.MAX), Bounds.MIN);
      Bounds.due(p.seed(0), Bounds.MAX);
      Bounds.due(p.seed(-1), 0);
      Bounds.due(p.seed(1), -1);
    });
    Bounds.test(35, "z that is as a finding is told, and is none", p -> {
      for (int z = Bounds.SIZE; z <= Bounds.BEYOND; z++) {
        p.seed(z);
        Bounds.due(p.count(6), z);
        Bounds.due(p.seed(0), z);
      }
      for (int which = -1; which < 7; which++) Bounds.due(p.status(which), 0);
    });
  }
}
