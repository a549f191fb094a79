/** What stays as it was: calls that only tell, and calls that change just what they say. */
final class StayBounds {
  private StayBounds() {
  }

  static void run() {
    tell();
    houses();
    years();
    texts();
    sheets();
    images();
  }

  private static void tell() {
    Bounds.quiet(4, "to tell of a HOUSE changes nothing", Bounds::filled, p -> p.of(0, 0), p -> p.of(2, 3), p -> p.of(3, 4));
    Bounds.quiet(9, "to tell how FAR changes nothing", Bounds::filled, p -> p.far(2, 0, 0), p -> p.far(3, 6, 10));
    Bounds.quiet(10, "to tell how many PAIRS changes nothing", Bounds::filled, p -> p.pairs(3, 3), p -> p.pairs(2, 3));
    Bounds.quiet(11, "to tell a PAIR changes nothing", Bounds::filled, p -> p.pair(3, 3));
    Bounds.quiet(12, "to tell a row changes nothing", Bounds::filled, p -> p.row(0), p -> p.row(11));
    Bounds.quiet(14, "to tell who is so by one changes nothing", Bounds::filled, p -> p.only(0), p -> p.only(11));
    Bounds.quiet(16, "to tell the WORTH changes nothing", Bounds::filled, p -> p.sum());
    Bounds.quiet(17, "to tell the best changes nothing", Bounds::filled, p -> p.best());
    Bounds.quiet(40, "to tell what a SPOT holds changes nothing", Bounds::filled, p -> p.as(3, 0));
  }

  private static void houses() {
    Bounds.alike(2, "just a HOUSE more, and one less when it burns down", Bounds::filled, p -> { }, p -> {
      p.grace(4, 0, 0);
      p.fire();
    });
    Bounds.alike(3, "just a HOUSE more, and COIN", Bounds::filled, p -> {
      p.grace(5, 3, 3);
      p.coin(366);
    }, p -> Bounds.due(p.build(5, 3, 3), 366));
    Bounds.alike(5, "just the KIND", Bounds::filled, p -> { }, p -> {
      p.change(0, 6);
      p.change(0, 0);
    });
    Bounds.alike(7, "just that LOT", Bounds::filled, p -> { }, p -> {
      p.worth(3, 3, 77);
      p.worth(3, 3, 31);
    });
    Bounds.alike(8, "just COIN", Bounds::filled, p -> { }, p -> {
      p.coin(0);
      p.coin(345);
    });
    Bounds.alike(39, "just that SPOT", Bounds::filled, p -> { }, p -> {
      p.hold(3, 2);
      p.hold(4, 2);
      p.hold(4, -1);
      p.hold(3, 0);
    });
  }

  private static void years() {
    Bounds.alike(31, "n YEARS are as one n times", StayBounds::rich, p -> p.years(60), p -> {
      for (int i = 0; i < 60; i++) p.years(1);
    });
    Bounds.alike(31, "a YEAR in which none is built: just YEAR and three draws", Bounds::ten, p -> {
      p.years(1);
      p.seed(Bounds.MIN);
    }, p -> {
      p.seed(3);
      p.years(1);
      p.seed(Bounds.MIN);
    });
    Bounds.alike(34, "n times is as once n times", StayBounds::rich, p -> p.strew(12), p -> {
      for (int i = 0; i < 12; i++) p.strew(1);
    });
    Bounds.alike(35, "just z", Bounds::filled, p -> { }, p -> {
      p.seed(5);
      p.seed(4711);
    });
  }

  private static void rich(EqualPlain p) {
    Bounds.filled(p);
    p.coin(99999);
  }

  private static void texts() {
    Bounds.alike(36, "n bytes at once are as one n times", Bounds::filled, p -> p.feed(0x3b686f75, 4), p -> {
      p.feed(';', 1);
      p.feed('h', 1);
      p.feed('o', 1);
      p.feed('u', 1);
    });
  }

  private static void sheets() {
    Bounds.alike(41, "just that sheet", Bounds::filled, p -> { }, p -> {
      p.sheet(3, 32, 40);
      p.sheet(3, 0, 0);
    });
    Bounds.alike(42, "just that number", Bounds::filled, p -> { }, p -> {
      p.write(0, 1, 88);
      p.write(0, 1, 27);
    });
    Bounds.alike(43, "just those numbers of the other one", Bounds::filled, p -> {
      p.sheet(2, 8, 3);
      p.write(2, 1, 39);
      p.write(2, 2, 27);
    }, p -> {
      p.sheet(2, 8, 3);
      Bounds.due(p.copy(0, 0, 2, 1, 2), 2);
    });
    Bounds.alike(44, "just WORTH of those LOTS", Bounds::filled, p -> {
      p.worth(0, 0, 39);
      p.worth(1, 0, 27);
      p.worth(2, 0, 5);
    }, p -> Bounds.due(p.load(0), 3));
  }

  private static void images() {
    Bounds.quiet(47, "all as it was kept just now", p -> {
      Bounds.filled(p);
      p.image();
    }, p -> p.undo());
  }
}
