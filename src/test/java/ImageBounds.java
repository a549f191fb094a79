/** The boundary cases of promises 46 to 50: images, counts, and how findings are counted. */
final class ImageBounds {
  private ImageBounds() {
  }

  static void run() {
    image();
    undo();
    tear();
    count();
    status();
  }

  /** Other in all that an image keeps than filled() is. */
  private static void otherwise(EqualPlain p) {
    p.fire();
    p.fire();
    p.fire();
    p.grace(6, 0, 7);
    p.change(0, 4);
    p.coin(0);
    p.worth(3, 3, 1);
    p.worth(11, 11, 2);
    p.hold(0, -1);
    p.hold(7, 1);
    p.years(9);
    p.seed(-5);
    p.strew(2);
  }

  private static void image() {
    Bounds.test(46, "1, each time", p -> {
      Bounds.due(p.image(), 1);
      Bounds.due(p.image(), 1);
    });
    Bounds.alike(46, "all is kept: HOUSES, COIN, WORTH, SPOTS, YEAR, z", Bounds::filled, p -> p.image(), p -> {
      p.image();
      otherwise(p);
      p.undo();
    });
    Bounds.test(46, "THE TAPE isn't kept", p -> {
      Bounds.feed(p, "coin 1");
      p.image();
      p.wipe();
      Bounds.feed(p, "coin 23");
      p.undo();
      Bounds.due(p.count(5), 7);
      Bounds.due(p.text(), 1);
      Bounds.due(p.count(2), 23);
    });
    Bounds.test(46, "SHEETS aren't kept", p -> {
      p.sheet(0, 8, 2);
      p.sheet(1, 8, 2);
      p.image();
      p.sheet(0, 8, 3);
      p.write(1, 0, 100);
      p.undo();
      Bounds.due(p.load(0), 3);
      Bounds.due(p.load(1), 0);
    });
    Bounds.quiet(46, "the first one: nothing that is there now changes", p -> {
      Bounds.filled(p);
      p.image();
    }, p -> p.image());
    Bounds.test(46, "an image of nothing: no HOUSES", p -> {
      p.image();
      Bounds.filled(p);
      p.tear();
      Bounds.due(p.undo(), Bounds.NONE);
      EqualPlain other = new EqualPlain();
      other.image();
      Bounds.two(other);
      Bounds.due(other.undo(), 0);
      Bounds.due(other.count(1), 0);
    });
  }

  private static void undo() {
    Bounds.refused(47, "NONE: nothing was ever kept", Bounds.NONE, p -> {
      Bounds.filled(p);
      p.tear();
    }, p -> p.undo());
    Bounds.refused(47, "NONE: a new object keeps nothing", Bounds.NONE, p -> Bounds.two(p), p -> p.undo());
    Bounds.test(47, "which stays: again and again", p -> {
      p.years(4);
      p.image();
      for (int i = 0; i < 3; i++) {
        p.years(5);
        Bounds.two(p);
        Bounds.due(p.undo(), 4);
        Bounds.due(p.count(1), 0);
      }
    });
    Bounds.test(47, "what was kept latest", p -> {
      p.years(1);
      p.image();
      p.years(1);
      p.image();
      p.years(1);
      Bounds.due(p.undo(), 2);
      Bounds.due(p.undo(), 2);
    });
    Bounds.test(47, "what is changed behind an undo() doesn't change what is kept", p -> {
      Bounds.two(p);
      p.worth(3, 3, 5);
      p.image();
      p.undo();
      p.worth(3, 3, 6);
      p.change(0, 6);
      p.hold(0, 0);
      p.undo();
      Bounds.due(p.worth(3, 3, 5), 5);
      Bounds.due(p.of(0, 0), 0);
      Bounds.due(p.count(7), 0);
    });
    Bounds.test(47, "YEAR 0 and YEAR 9999", p -> {
      p.image();
      Bounds.toYear(p, 9999);
      Bounds.due(p.undo(), 0);
      Bounds.due(p.years(1), 0);
      EqualPlain other = new EqualPlain();
      Bounds.toYear(other, 9999);
      other.image();
      Bounds.due(other.undo(), 9999);
    });
    Bounds.test(47, "10 HOUSES come back, and 10 go", p -> {
      Bounds.ten(p);
      p.image();
      for (int i = 0; i < 10; i++) p.fire();
      p.undo();
      Bounds.due(p.count(1), 10);
      Bounds.due(p.of(9, 1), 4);
      Bounds.due(p.of(0, 4), 2);
    });
    Bounds.test(47, "a SPOT holds one that came back", p -> {
      Bounds.two(p);
      p.hold(0, 1);
      p.image();
      p.fire();
      Bounds.due(p.as(0, 0), Bounds.MISSING);
      p.undo();
      Bounds.due(p.as(0, 0), 1);
    });
    Bounds.test(47, "COIN above 99999 comes back", p -> {
      Bounds.two(p);
      p.coin(99999);
      p.worth(3, 3, 99);
      p.build(1, 3, 3);
      p.image();
      p.coin(0);
      p.undo();
      Bounds.due(p.count(2), 100095);
    });
  }

  private static void tear() {
    Bounds.test(48, "0: nothing was kept", p -> {
      Bounds.due(p.tear(), 0);
      Bounds.due(p.status(-1), 0);
    });
    Bounds.test(48, "1: something was; then 0", p -> {
      p.image();
      p.image();
      Bounds.due(p.tear(), 1);
      Bounds.due(p.tear(), 0);
      Bounds.due(p.undo(), Bounds.NONE);
    });
    Bounds.test(48, "an image made again", p -> {
      p.image();
      p.tear();
      p.years(3);
      p.image();
      Bounds.due(p.undo(), 3);
      Bounds.due(p.tear(), 1);
    });
    Bounds.test(48, "1 behind an undo() too: what was kept stayed", p -> {
      p.image();
      p.undo();
      Bounds.due(p.tear(), 1);
    });
    Bounds.alike(48, "all else stays", Bounds::filled, p -> p.image(), p -> {
      p.tear();
      p.image();
    });
  }

  private static void count() {
    Bounds.test(49, "0 YEAR, up to 9999", p -> {
      Bounds.toYear(p, 9999);
      Bounds.due(p.count(0), 9999);
    });
    Bounds.test(49, "1 HOUSES, up to 10", p -> {
      Bounds.ten(p);
      p.grace(0, 0, 0);
      Bounds.due(p.count(1), 10);
    });
    Bounds.test(49, "2 COIN", p -> {
      p.coin(99999);
      Bounds.due(p.count(2), 99999);
    });
    Bounds.test(49, "3 PAIRS: each once, up to 45", p -> {
      p.grace(0, 0, 0);
      Bounds.due(p.count(3), 0);
      p.grace(0, 1, 0);
      Bounds.due(p.count(3), 1);
      p.fire();
      p.fire();
      Bounds.circle(p);
      Bounds.due(p.count(3), 45);
    });
    Bounds.test(49, "3 PAIRS: none of ruins", p -> {
      Bounds.tenRuins(p);
      Bounds.due(p.count(3), 0);
    });
    Bounds.test(49, "4 WORTH of all LOTS, FREE or not, up to 144 times 99", p -> {
      for (int lot = 0; lot < 144; lot++) p.worth(lot % 12, lot / 12, 99);
      Bounds.due(p.count(4), 14256);
      Bounds.two(p);
      Bounds.due(p.count(4), 14256);
      Bounds.due(p.sum(), 1188);
    });
    Bounds.test(49, "5 bytes of THE TAPE, up to 120", p -> {
      for (int i = 0; i < 31; i++) p.feed(0, 4);
      Bounds.due(p.count(5), 120);
    });
    Bounds.test(49, "6 z, any int", p -> {
      p.seed(Bounds.MIN);
      Bounds.due(p.count(6), Bounds.MIN);
      p.seed(Bounds.BEYOND);
      Bounds.due(p.count(6), Bounds.BEYOND);
      Bounds.due(p.status(-1), 0);
    });
    Bounds.test(49, "7 SPOTS that hold something, up to 10, HOUSE 0 too", p -> {
      p.grace(0, 0, 0);
      for (int spot = 0; spot < 10; spot++) {
        p.hold(spot, 0);
        Bounds.due(p.count(7), spot + 1);
      }
    });
    Bounds.refused(49, "BEYOND: another what", Bounds.BEYOND, Bounds::filled,
        p -> p.count(-1), p -> p.count(8), p -> p.count(Bounds.MIN), p -> p.count(Bounds.MAX));
    Bounds.quiet(49, "nothing changes", Bounds::filled, p -> p.count(0), p -> p.count(3), p -> p.count(7));
  }

  private static void status() {
    Bounds.test(50, "which 0 to 6: BEYOND to SIZE; -1: all", p -> {
      Bounds.tenRuins(p);
      p.hold(0, 0);
      for (int i = 0; i < 1; i++) Bounds.due(p.row(12), -1000001);
      for (int i = 0; i < 2; i++) Bounds.due(p.grace(0, 0, 0), -1000002);
      for (int i = 0; i < 3; i++) Bounds.due(p.as(0, 2), -1000003);
      for (int i = 0; i < 4; i++) Bounds.due(p.best(), -1000004);
      for (int i = 0; i < 5; i++) Bounds.due(p.grace(0, 0, 11), -1000005);
      for (int i = 0; i < 6; i++) Bounds.due(p.as(1, 0), -1000006);
      for (int i = 0; i < 7; i++) Bounds.due(p.sheet(0, 8, -1), -1000007);
      for (int which = 0; which < 7; which++) Bounds.due(p.status(which), which + 1);
      Bounds.due(p.status(-1), 28);
    });
    Bounds.refused(50, "BEYOND: another one", Bounds.BEYOND, Bounds::filled,
        p -> p.status(-2), p -> p.status(7), p -> p.status(Bounds.MIN), p -> p.status(Bounds.MAX));
    Bounds.test(50, "BEYOND of status() itself is counted from then on", p -> {
      Bounds.due(p.status(0), 0);
      Bounds.due(p.status(7), Bounds.BEYOND);
      Bounds.due(p.status(0), 1);
      Bounds.due(p.status(-2), Bounds.BEYOND);
      Bounds.due(p.status(0), 2);
      Bounds.due(p.status(-1), 2);
    });
    Bounds.quiet(50, "to ask counts nothing", Bounds::filled, p -> p.status(-1), p -> p.status(0), p -> p.status(6));
    Bounds.test(50, "undo() takes none back", p -> {
      p.image();
      p.row(12);
      p.best();
      p.undo();
      Bounds.due(p.status(-1), 2);
      p.tear();
      p.undo();
      Bounds.due(p.status(3), 2);
      Bounds.due(p.status(0), 1);
      Bounds.due(p.status(-1), 3);
    });
    Bounds.test(50, "no FAULT, no FAR of -1, no z is counted", p -> {
      p.text();
      p.grace(6, 5, 5);
      p.far(0, 5, 5);
      p.seed(Bounds.STATE);
      p.seed(Bounds.STATE);
      p.count(6);
      for (int which = -1; which < 7; which++) Bounds.due(p.status(which), 0);
    });
    Bounds.test(50, "ever: 400 of them", p -> {
      for (int i = 0; i < 400; i++) p.best();
      Bounds.due(p.status(3), 400);
      Bounds.due(p.status(-1), 400);
    });
  }
}
