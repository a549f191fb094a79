/** The boundary cases of the terms of spots and sheets, and of promises 39 to 45. */
final class SheetBounds {
  private SheetBounds() {
  }

  static void run() {
    hold();
    as();
    sheet();
    write();
    wrapAround();
    copy();
    overlaps();
    load();
    judge();
  }

  private static void hold() {
    Bounds.test(39, "SPOTS 0 and 9, HOUSE 0 and the 10th, are taken", p -> {
      Bounds.ten(p);
      Bounds.due(p.hold(0, 9), 1);
      Bounds.due(p.hold(9, 0), 1);
      Bounds.due(p.as(0, 0), 9);
      Bounds.due(p.as(9, 0), 0);
      Bounds.due(p.count(7), 2);
    });
    Bounds.test(39, "nothing (-1): also where nothing is held, also without HOUSES", p -> {
      Bounds.due(p.hold(0, -1), 1);
      Bounds.due(p.count(7), 0);
      p.grace(0, 0, 0);
      p.hold(0, 0);
      Bounds.due(p.hold(0, -1), 1);
      Bounds.due(p.as(0, 0), Bounds.MISSING);
      Bounds.due(p.count(7), 0);
    });
    Bounds.test(39, "all SPOTS may hold one and the same", p -> {
      p.grace(0, 0, 0);
      for (int spot = 0; spot < 10; spot++) Bounds.due(p.hold(spot, 0), 1);
      for (int spot = 0; spot < 10; spot++) Bounds.due(p.as(spot, 0), 0);
      Bounds.due(p.count(7), 10);
    });
    Bounds.refused(39, "BEYOND: no such SPOT", Bounds.BEYOND, Bounds::filled,
        p -> p.hold(-1, 0), p -> p.hold(10, 0), p -> p.hold(10, -1), p -> p.hold(Bounds.MIN, 0), p -> p.hold(Bounds.MAX, 0));
    Bounds.refused(39, "BEYOND: no such HOUSE", Bounds.BEYOND, Bounds::filled,
        p -> p.hold(0, 4), p -> p.hold(0, 10), p -> p.hold(0, -2), p -> p.hold(0, Bounds.MIN), p -> p.hold(0, Bounds.MAX));
    Bounds.refused(39, "BEYOND: one that burned down", Bounds.BEYOND, p -> {
      Bounds.filled(p);
      p.fire();
    }, p -> p.hold(0, 3));
  }

  private static void as() {
    Bounds.test(40, "of that KIND or of one under it, each of one by each", p -> {
      int[] under = {0b1111111, 0b0001010, 0b0010100, 0b0001000, 0b0010000, 0b1100000, 0b1000000};
      p.grace(0, 0, 0);
      p.hold(0, 0);
      for (int kind = 0; kind < 7; kind++) {
        p.change(0, kind);
        for (int as = 0; as < 7; as++) Bounds.due(p.as(0, as), (under[as] >> kind & 1) != 0 ? 0 : Bounds.KIND);
      }
    });
    Bounds.refused(40, "KIND: one above it isn't of it", Bounds.KIND, Bounds::filled, p -> p.as(3, 1), p -> p.as(3, 5), p -> p.as(3, 6));
    Bounds.refused(40, "BEYOND: no such SPOT", Bounds.BEYOND, Bounds::filled,
        p -> p.as(-1, 0), p -> p.as(10, 0), p -> p.as(Bounds.MIN, 0), p -> p.as(Bounds.MAX, 0));
    Bounds.refused(40, "BEYOND: kind below 0", Bounds.BEYOND, Bounds::filled, p -> p.as(3, -1), p -> p.as(3, Bounds.MIN));
    Bounds.refused(40, "BEYOND: kind above 6", Bounds.BEYOND, Bounds::filled, p -> p.as(3, 7), p -> p.as(3, Bounds.MAX));
    Bounds.refused(40, "MISSING: it holds nothing", Bounds.MISSING, Bounds::filled, p -> p.as(1, 0), p -> p.as(9, 0));
    Bounds.refused(40, "MISSING: it holds one that isn't there any more", Bounds.MISSING, p -> {
      Bounds.filled(p);
      p.hold(5, 3);
      p.fire();
    }, p -> p.as(5, 0), p -> p.as(5, 2));
    Bounds.refused(40, "BEYOND goes ahead of MISSING", Bounds.BEYOND, Bounds::filled, p -> p.as(1, 7), p -> p.as(1, -1), p -> p.as(10, 6));
    Bounds.refused(40, "BEYOND goes ahead of KIND", Bounds.BEYOND, p -> {
      Bounds.filled(p);
      p.hold(5, 3);
    }, p -> p.as(5, 7));
    Bounds.refused(40, "MISSING goes ahead of KIND", Bounds.MISSING, p -> {
      Bounds.filled(p);
      p.hold(5, 3);
      p.fire();
    }, p -> p.as(5, 6));
    Bounds.test(40, "a SPOT that holds one that isn't there any more holds something", p -> {
      p.grace(0, 0, 0);
      p.hold(2, 0);
      p.fire();
      Bounds.due(p.as(2, 0), Bounds.MISSING);
      Bounds.due(p.count(7), 1);
    });
    Bounds.test(40, "it holds the HOUSE, of what KIND and on what LOT it may come to be", p -> {
      Bounds.two(p);
      p.hold(2, 1);
      p.change(1, 6);
      p.strew(12);
      Bounds.due(p.as(2, 6), 1);
    });
  }

  private static void sheet() {
    Bounds.test(41, "sheets 0 and 3, n 0 and 40, of 8, 16 and 32 bits", p -> {
      for (int bits = 8; bits <= 32; bits *= 2) {
        Bounds.due(p.sheet(0, bits, 0), 0);
        Bounds.due(p.load(0), 0);
        Bounds.due(p.sheet(3, bits, 40), 40);
        Bounds.due(p.load(3), 40);
      }
      Bounds.due(p.status(-1), 0);
    });
    Bounds.test(41, "of 0 numbers it isn't MISSING", p -> {
      Bounds.due(p.sheet(1, 8, 0), 0);
      Bounds.due(p.load(1), 0);
      Bounds.due(p.write(1, 0, 0), Bounds.BEYOND);
    });
    Bounds.test(41, "bits 0: it is MISSING: 0, whatever n", p -> {
      for (int n : new int[] {0, 1, 40}) {
        p.sheet(0, 8, 4);
        Bounds.due(p.sheet(0, 0, n), 0);
        Bounds.due(p.load(0), Bounds.MISSING);
        Bounds.due(p.sheet(0, 0, n), 0);
      }
    });
    Bounds.test(41, "all are 0, whatever was there: the same n, less, more, MISSING between", p -> {
      for (int n : new int[] {4, 2, 6, 0, 4}) {
        for (int i = 0; i < 40; i++) p.write(0, i, 200);
        Bounds.due(p.sheet(0, 16, n), n);
        Bounds.due(p.load(0), n);
      }
      p.write(0, 3, 200);
      p.sheet(0, 0, 4);
      p.sheet(0, 16, 4);
      Bounds.due(p.load(0), 4);
    });
    Bounds.refused(41, "BEYOND: no such sheet", Bounds.BEYOND, Bounds::filled,
        p -> p.sheet(-1, 8, 1), p -> p.sheet(4, 8, 1), p -> p.sheet(4, 0, 0), p -> p.sheet(Bounds.MIN, 8, 1), p -> p.sheet(Bounds.MAX, 8, 1));
    Bounds.refused(41, "BEYOND: other bits", Bounds.BEYOND, Bounds::filled,
        p -> p.sheet(0, 1, 1), p -> p.sheet(0, 7, 1), p -> p.sheet(0, 9, 1), p -> p.sheet(0, 15, 1), p -> p.sheet(0, 17, 1),
        p -> p.sheet(0, 24, 1), p -> p.sheet(0, 31, 1), p -> p.sheet(0, 33, 1), p -> p.sheet(0, 64, 1), p -> p.sheet(0, -8, 1),
        p -> p.sheet(0, 40, 1), p -> p.sheet(0, -1, 1), p -> p.sheet(0, Bounds.MIN, 1), p -> p.sheet(0, Bounds.MAX, 1));
    Bounds.refused(41, "SIZE: n is below 0", Bounds.SIZE, Bounds::filled,
        p -> p.sheet(0, 8, -1), p -> p.sheet(0, 16, -1), p -> p.sheet(3, 32, Bounds.MIN));
    Bounds.refused(41, "SIZE: n is below 0, also with bits 0", Bounds.SIZE, Bounds::filled,
        p -> p.sheet(0, 0, -1), p -> p.sheet(0, 0, Bounds.MIN));
    Bounds.refused(41, "BEYOND: n is above 40", Bounds.BEYOND, Bounds::filled,
        p -> p.sheet(0, 8, 41), p -> p.sheet(0, 16, 41), p -> p.sheet(3, 32, Bounds.MAX));
    Bounds.refused(41, "BEYOND: n is above 40, also with bits 0", Bounds.BEYOND, Bounds::filled,
        p -> p.sheet(0, 0, 41), p -> p.sheet(0, 0, Bounds.MAX));
    Bounds.refused(41, "BEYOND (the sheet, the bits) goes ahead of SIZE", Bounds.BEYOND, Bounds::filled,
        p -> p.sheet(4, 8, -1), p -> p.sheet(-1, 0, -1), p -> p.sheet(0, 7, -1));
  }

  private static void write() {
    Bounds.test(42, "the first and the last number, of each of the sheets", p -> {
      for (int s = 0; s < 4; s++) {
        p.sheet(s, 8, 40);
        Bounds.due(p.write(s, 0, 10 + s), 1);
        Bounds.due(p.write(s, 39, 20 + s), 1);
      }
      for (int s = 0; s < 4; s++) {
        Bounds.due(p.load(s), 40);
        Bounds.due(p.worth(0, 0, 0), 10 + s);
        Bounds.due(p.worth(3, 3, 0), 20 + s);
      }
    });
    Bounds.refused(42, "BEYOND: no such sheet", Bounds.BEYOND, Bounds::filled,
        p -> p.write(-1, 0, 1), p -> p.write(4, 0, 1), p -> p.write(Bounds.MIN, 0, 1), p -> p.write(Bounds.MAX, 0, 1));
    Bounds.refused(42, "MISSING", Bounds.MISSING, Bounds::filled, p -> p.write(3, 0, 1));
    Bounds.refused(42, "MISSING goes ahead of BEYOND (no such number)", Bounds.MISSING, Bounds::filled,
        p -> p.write(3, -1, 1), p -> p.write(3, 40, 1));
    Bounds.refused(42, "BEYOND: no such number", Bounds.BEYOND, Bounds::filled,
        p -> p.write(0, -1, 1), p -> p.write(0, 3, 1), p -> p.write(0, Bounds.MIN, 1), p -> p.write(0, Bounds.MAX, 1));
    Bounds.refused(42, "BEYOND: no such number, of 40 and of 0", Bounds.BEYOND, Bounds::filled,
        p -> p.write(1, 40, 1), p -> p.write(1, -1, 1), p -> p.write(2, 0, 1));
  }

  /** What one number of a sheet of so many bits becomes, if that is 0 to 99; else -1. */
  private static int written(EqualPlain p, int bits, int v) {
    p.sheet(0, bits, 1);
    Bounds.due(p.write(0, 0, v), 1);
    p.worth(0, 0, 0);
    return p.load(0) == 1 ? p.worth(0, 0, 0) : -1;
  }

  /** If 1 number of a sheet is the lot on which a house of kind 0 is free. */
  private static int isLot(EqualPlain p, int bits, int v) {
    p.sheet(0, bits, 1);
    p.write(0, 0, v);
    return 1 - p.judge(0);
  }

  private static void wrapAround() {
    Bounds.test(42, "8 bits: told with their sign: 255 is -1, 256 is 0", p -> {
      Bounds.due(written(p, 8, 99), 99);
      Bounds.due(written(p, 8, 255), -1);
      Bounds.due(written(p, 8, 256), 0);
      Bounds.due(written(p, 8, 256 + 99), 99);
      Bounds.due(written(p, 8, -256), 0);
      Bounds.due(written(p, 8, -255), 1);
      Bounds.due(written(p, 8, -1), -1);
      Bounds.due(written(p, 8, Bounds.MIN), 0);
      Bounds.due(written(p, 8, Bounds.MAX), -1);
    });
    Bounds.test(42, "8 bits: 127 stays, 128 is -128", p -> {
      // row 10 holds the lots 120 to 131
      p.grace(0, 5, 9);
      p.grace(0, 5, 11);
      Bounds.due(isLot(p, 8, 127), 1);
      Bounds.due(isLot(p, 8, 128), 0);
      Bounds.due(isLot(p, 16, 128), 1);
      Bounds.due(isLot(p, 32, 128), 1);
    });
    Bounds.test(42, "16 bits: 65535 is -1, 65536 is 0", p -> {
      Bounds.due(written(p, 16, 99), 99);
      Bounds.due(written(p, 16, 65535), -1);
      Bounds.due(written(p, 16, 65536), 0);
      Bounds.due(written(p, 16, 65536 + 99), 99);
      Bounds.due(written(p, 16, 32768), -1);
      Bounds.due(written(p, 16, 256), -1);
      Bounds.due(written(p, 16, -65535), 1);
      Bounds.due(written(p, 16, Bounds.MIN), 0);
      Bounds.due(written(p, 16, Bounds.MAX), -1);
    });
    Bounds.test(42, "32 bits: all of v", p -> {
      Bounds.due(written(p, 32, 99), 99);
      Bounds.due(written(p, 32, 256), -1);
      Bounds.due(written(p, 32, 65536), -1);
      Bounds.due(written(p, 32, Bounds.MIN), -1);
      Bounds.due(written(p, 32, Bounds.MAX), -1);
      Bounds.due(written(p, 32, -1), -1);
      Bounds.due(written(p, 32, 0), 0);
    });
  }

  private static void copy() {
    Bounds.refused(43, "BEYOND: no such sheet (the one)", Bounds.BEYOND, Bounds::filled,
        p -> p.copy(-1, 0, 0, 0, 1), p -> p.copy(4, 0, 0, 0, 1), p -> p.copy(Bounds.MIN, 0, 0, 0, 1), p -> p.copy(Bounds.MAX, 0, 0, 0, 1));
    Bounds.refused(43, "BEYOND: no such sheet (the other one)", Bounds.BEYOND, Bounds::filled,
        p -> p.copy(0, 0, -1, 0, 1), p -> p.copy(0, 0, 4, 0, 1), p -> p.copy(0, 0, Bounds.MIN, 0, 1), p -> p.copy(0, 0, Bounds.MAX, 0, 1));
    Bounds.refused(43, "MISSING: one is, the one or the other one or both", Bounds.MISSING, Bounds::filled,
        p -> p.copy(3, 0, 0, 0, 0), p -> p.copy(0, 0, 3, 0, 0), p -> p.copy(3, 0, 3, 0, 0));
    Bounds.refused(43, "KIND: they are not of as many bits", Bounds.KIND, p -> {
      Bounds.filled(p);
      p.sheet(3, 32, 3);
    }, p -> p.copy(0, 0, 1, 0, 1), p -> p.copy(1, 0, 0, 0, 1), p -> p.copy(0, 0, 3, 0, 0), p -> p.copy(1, 0, 3, 0, 0), p -> p.copy(3, 0, 1, 0, 1));
    Bounds.refused(43, "BEYOND: the one has not so many", Bounds.BEYOND, SheetBounds::threeAndForty,
        p -> p.copy(0, 0, 1, 0, 4), p -> p.copy(0, 1, 1, 0, 3), p -> p.copy(0, 3, 1, 0, 1), p -> p.copy(0, 4, 1, 0, 0),
        p -> p.copy(0, Bounds.MAX, 1, 0, 0), p -> p.copy(0, Bounds.MAX, 1, 0, Bounds.MAX), p -> p.copy(0, 1, 1, 0, Bounds.MAX));
    Bounds.refused(43, "BEYOND: the other one has not so many", Bounds.BEYOND, SheetBounds::threeAndForty,
        p -> p.copy(1, 0, 0, 0, 4), p -> p.copy(1, 0, 0, 1, 3), p -> p.copy(1, 0, 0, 3, 1), p -> p.copy(1, 0, 0, 4, 0),
        p -> p.copy(1, 0, 0, Bounds.MAX, 1), p -> p.copy(1, 0, 0, Bounds.MAX, 0));
    Bounds.refused(43, "BEYOND: from is below 0", Bounds.BEYOND, SheetBounds::threeAndForty,
        p -> p.copy(0, -1, 1, 0, 1), p -> p.copy(0, -1, 1, 0, 0), p -> p.copy(0, Bounds.MIN, 1, 0, 1));
    Bounds.refused(43, "BEYOND: to is below 0", Bounds.BEYOND, SheetBounds::threeAndForty,
        p -> p.copy(0, 0, 1, -1, 1), p -> p.copy(0, 0, 1, -1, 0), p -> p.copy(0, 0, 1, Bounds.MIN, 1));
    Bounds.refused(43, "BEYOND: n is below 0", Bounds.BEYOND, SheetBounds::threeAndForty,
        p -> p.copy(0, 0, 1, 0, -1), p -> p.copy(0, 2, 1, 2, -1), p -> p.copy(0, 0, 1, 0, Bounds.MIN));
    Bounds.refused(43, "BEYOND (no such sheet) goes ahead of MISSING", Bounds.BEYOND, Bounds::filled,
        p -> p.copy(3, 0, 4, 0, 1), p -> p.copy(4, 0, 3, 0, 1));
    Bounds.refused(43, "MISSING goes ahead of KIND and of BEYOND (not so many)", Bounds.MISSING, Bounds::filled,
        p -> p.copy(3, -1, 0, 0, 1), p -> p.copy(1, 0, 3, 0, 41), p -> p.copy(0, 0, 3, 0, -1));
    Bounds.refused(43, "KIND goes ahead of BEYOND (not so many)", Bounds.KIND, Bounds::filled,
        p -> p.copy(0, 0, 1, 0, 41), p -> p.copy(1, -1, 0, 0, 1), p -> p.copy(0, 0, 1, 0, -1));
    Bounds.quiet(43, "n 0: nothing comes, also from the end and to the end", SheetBounds::threeAndForty,
        p -> p.copy(0, 0, 1, 0, 0), p -> p.copy(0, 3, 1, 40, 0), p -> p.copy(1, 40, 0, 3, 0), p -> p.copy(2, 0, 2, 0, 0));
    Bounds.test(43, "all of one: up to the end", p -> {
      threeAndForty(p);
      Bounds.due(p.copy(0, 0, 1, 37, 3), 3);
      Bounds.due(row(p, 1, 37, 3), 111213);
      Bounds.due(p.copy(1, 37, 0, 0, 3), 3);
      Bounds.due(p.copy(0, 2, 1, 39, 1), 1);
      Bounds.due(row(p, 1, 37, 3), 111213);
      Bounds.due(p.copy(1, 0, 1, 0, 40), 40);
    });
    Bounds.test(43, "of 16 and of 32 bits", p -> {
      for (int bits = 16; bits <= 32; bits += 16) {
        p.sheet(0, bits, 2);
        p.sheet(1, bits, 2);
        p.write(0, 1, 300);
        Bounds.due(p.copy(0, 1, 1, 0, 1), 1);
        Bounds.due(p.load(1), 0);
      }
    });
  }

  /** Sheet 0: 11, 12, 13; sheet 1: 40 numbers; sheet 2: none; all of 8 bits. */
  private static void threeAndForty(EqualPlain p) {
    p.sheet(0, 8, 3);
    for (int i = 0; i < 3; i++) p.write(0, i, 11 + i);
    p.sheet(1, 8, 40);
    p.write(1, 0, 55);
    p.write(1, 39, 66);
    p.sheet(2, 8, 0);
  }

  /** So many numbers of a sheet, each as two digits. */
  private static int row(EqualPlain p, int s, int from, int n) {
    p.load(s);
    int row = 0;
    for (int i = from; i < from + n; i++) row = 100 * row + p.worth(i % 12, i / 12, 0);
    return row;
  }

  private static void overlaps() {
    Bounds.test(43, "as they all were: within one sheet, forth and back", p -> {
      p.sheet(0, 8, 4);
      for (int i = 0; i < 4; i++) p.write(0, i, 11 + i);
      Bounds.due(p.copy(0, 0, 0, 1, 3), 3);
      Bounds.due(row(p, 0, 0, 4), 11111213);
      p.write(0, 0, 10);
      Bounds.due(p.copy(0, 1, 0, 0, 3), 3);
      Bounds.due(row(p, 0, 0, 4), 11121313);
      Bounds.due(p.copy(0, 0, 0, 0, 4), 4);
      Bounds.due(row(p, 0, 0, 4), 11121313);
    });
    Bounds.test(43, "the one stays as it was", p -> {
      threeAndForty(p);
      p.copy(0, 0, 1, 5, 3);
      Bounds.due(row(p, 0, 0, 3), 111213);
      Bounds.due(row(p, 1, 5, 3), 111213);
    });
  }

  private static void load() {
    Bounds.test(44, "0 and 99 come", p -> {
      p.worth(0, 0, 5);
      p.sheet(0, 8, 2);
      p.write(0, 1, 99);
      Bounds.due(p.load(0), 2);
      Bounds.due(p.worth(0, 0, 0), 0);
      Bounds.due(p.worth(1, 0, 0), 99);
    });
    Bounds.test(44, "it ends at the first that is 100", p -> {
      p.sheet(0, 8, 3);
      p.write(0, 0, 7);
      p.write(0, 1, 100);
      p.write(0, 2, 8);
      p.worth(1, 0, 1);
      Bounds.due(p.load(0), 1);
      Bounds.due(p.worth(0, 0, 0), 7);
      Bounds.due(p.worth(1, 0, 0), 1);
      Bounds.due(p.worth(2, 0, 0), 0);
    });
    Bounds.test(44, "it ends at the first that is -1", p -> {
      p.sheet(0, 32, 3);
      p.write(0, 0, 7);
      p.write(0, 1, -1);
      Bounds.due(p.load(0), 1);
    });
    Bounds.test(44, "the first of all isn't 0 to 99: 0 came", p -> {
      p.sheet(0, 32, 3);
      p.write(0, 0, Bounds.MAX);
      Bounds.due(p.load(0), 0);
      p.write(0, 0, Bounds.MIN);
      Bounds.due(p.load(0), 0);
      Bounds.due(p.status(-1), 0);
    });
    Bounds.test(44, "40 numbers come: LOTS 0 to 39", p -> {
      p.sheet(0, 16, 40);
      for (int i = 0; i < 40; i++) p.write(0, i, i + 1);
      p.worth(4, 3, 77);
      Bounds.due(p.load(0), 40);
      for (int i = 0; i < 40; i++) Bounds.due(p.worth(i % 12, i / 12, 0), i + 1);
      Bounds.due(p.worth(4, 3, 0), 77);
    });
    Bounds.test(44, "a sheet of 0 numbers: 0", p -> {
      p.sheet(0, 8, 0);
      p.worth(0, 0, 5);
      Bounds.due(p.load(0), 0);
      Bounds.due(p.worth(0, 0, 0), 5);
    });
    Bounds.refused(44, "BEYOND: no such sheet", Bounds.BEYOND, Bounds::filled,
        p -> p.load(-1), p -> p.load(4), p -> p.load(Bounds.MIN), p -> p.load(Bounds.MAX));
    Bounds.refused(44, "MISSING", Bounds.MISSING, Bounds::filled, p -> p.load(3));
    Bounds.refused(44, "MISSING: it was taken away", Bounds.MISSING, p -> {
      Bounds.filled(p);
      p.sheet(0, 0, 3);
    }, p -> p.load(0));
  }

  private static void judge() {
    Bounds.refused(45, "BEYOND: no such sheet", Bounds.BEYOND, Bounds::filled,
        p -> p.judge(-1), p -> p.judge(4), p -> p.judge(Bounds.MIN), p -> p.judge(Bounds.MAX));
    Bounds.refused(45, "MISSING", Bounds.MISSING, Bounds::filled, p -> p.judge(3));
    Bounds.refused(45, "SIZE: there would be 11 HOUSES", Bounds.SIZE, p -> {
      Bounds.filled(p);
      p.sheet(0, 8, 7);
      p.sheet(1, 8, 40);
    }, p -> p.judge(0), p -> p.judge(1));
    Bounds.refused(45, "SIZE: there are 10 HOUSES, and it has one number", Bounds.SIZE, p -> {
      Bounds.ten(p);
      p.sheet(0, 8, 1);
    }, p -> p.judge(0));
    Bounds.refused(45, "SIZE goes ahead of what the numbers are", Bounds.SIZE, p -> {
      Bounds.two(p);
      p.sheet(0, 8, 9);
      p.write(0, 0, -1);
    }, p -> p.judge(0));
    Bounds.test(45, "up to 10 HOUSES", p -> {
      Bounds.two(p);
      p.sheet(0, 8, 8);
      for (int i = 0; i < 8; i++) p.write(0, i, 12 * i + 3);
      Bounds.due(p.judge(0), 0);
      p.write(0, 7, 3);
      Bounds.due(p.judge(0), 8);
    });
    Bounds.test(45, "a sheet of 0 numbers: 0, with 10 HOUSES too", p -> {
      p.sheet(0, 8, 0);
      Bounds.due(p.judge(0), 0);
      Bounds.ten(p);
      Bounds.due(p.judge(0), 0);
    });
    Bounds.test(45, "the first isn't FREE: 1", p -> {
      Bounds.two(p);
      p.sheet(0, 8, 2);
      p.write(0, 0, 52);
      p.write(0, 1, 3);
      Bounds.due(p.judge(0), 1);
      p.write(0, 0, 38);
      Bounds.due(p.judge(0), 1);
    });
    Bounds.test(45, "the second is FREE by the first only", p -> {
      Bounds.two(p);
      p.sheet(0, 8, 2);
      p.write(0, 0, 27);
      p.write(0, 1, 52);
      Bounds.due(p.judge(0), 0);
      p.write(0, 0, 52);
      p.write(0, 1, 27);
      Bounds.due(p.judge(0), 1);
    });
    Bounds.test(45, "twice the same LOT: the second isn't FREE", p -> {
      Bounds.two(p);
      p.sheet(0, 8, 2);
      p.write(0, 0, 3);
      p.write(0, 1, 3);
      Bounds.due(p.judge(0), 2);
    });
    Bounds.test(45, "LOT 0 and LOT 143 are LOTS", p -> {
      p.grace(0, 0, 1);
      p.grace(0, 1, 0);
      p.sheet(0, 16, 2);
      p.write(0, 1, 143);
      Bounds.due(p.judge(0), 0);
    });
    Bounds.test(45, "144 and -1 are no LOTS", p -> {
      // (0, 12) would be as far from the first two, (-1, 0) and (11, -1) each from two of the others
      p.grace(0, 1, 10);
      p.grace(0, 2, 11);
      p.grace(0, 0, 2);
      p.grace(0, 1, 1);
      p.grace(0, 10, 1);
      p.grace(0, 9, 0);
      p.sheet(0, 32, 1);
      for (int v : new int[] {144, -1, Bounds.MIN, Bounds.MAX, 156, -12}) {
        p.write(0, 0, v);
        Bounds.due(p.judge(0), 1);
      }
    });
    Bounds.test(45, "those put up are of KIND 0", p -> {
      p.grace(1, 2, 3);
      p.grace(0, 4, 3);
      p.sheet(0, 16, 2);
      p.write(0, 0, 27);
      p.write(0, 1, 65);
      // (5, 5) is 13 from the hut and from (3, 2): a pair, unless that were a hut too
      Bounds.due(p.judge(0), 0);
      p.grace(1, 3, 2);
      Bounds.due(p.pairs(5, 5), 0);
    });
    Bounds.quiet(45, "nothing changes", Bounds::filled, p -> p.judge(0), p -> p.judge(2));
    Bounds.test(45, "COIN isn't asked", p -> {
      Bounds.two(p);
      p.coin(0);
      p.sheet(0, 8, 1);
      p.write(0, 0, 3);
      Bounds.due(p.judge(0), 0);
    });
  }
}
