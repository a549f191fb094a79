/** The boundary cases of the terms of texts, and of promises 36 to 38. */
final class TextBounds {
  private TextBounds() {
  }

  static void run() {
    feed();
    wipe();
    text();
    tokens();
    lotsOfHouses();
    numbers();
    tooEarly();
    wrongTokens();
    faults();
  }

  /** So many bytes, all of them blanks. */
  private static void blanks(EqualPlain p, int n) {
    p.wipe();
    for (int i = 0; i < n; i++) p.feed(32, 1);
  }

  private static void feed() {
    Bounds.test(36, "n 1 to 4 are taken: how many it has", p -> {
      Bounds.due(p.feed(0, 1), 1);
      Bounds.due(p.feed(0, 2), 3);
      Bounds.due(p.feed(0, 3), 6);
      Bounds.due(p.feed(0, 4), 10);
      Bounds.due(p.count(5), 10);
    });
    Bounds.test(36, "the highest of these first; of a number below 0 too", p -> {
      p.feed('c' << 24 | 'o' << 16 | 'i' << 8 | 'n', 4);
      p.feed(0x80000000 | '1' << 16 | '2' << 8 | '3', 3);
      p.feed(0xffff0000 | '4' << 8 | '5', 2);
      Bounds.due(p.text(), 1);
      Bounds.due(p.count(2), 12345);
    });
    Bounds.test(36, "just the n lowest bytes", p -> {
      p.feed('c' << 24 | 'o' << 16 | 'i' << 8 | 'n', 4);
      p.feed('9' << 24 | '9' << 16 | '9' << 8 | '8', 1);
      p.feed('9' << 24 | '9' << 16 | '7' << 8 | '6', 2);
      Bounds.due(p.text(), 1);
      Bounds.due(p.count(2), 876);
    });
    Bounds.refused(36, "BEYOND: n below 1", Bounds.BEYOND, Bounds::filled, p -> p.feed(65, 0), p -> p.feed(65, -1), p -> p.feed(65, Bounds.MIN));
    Bounds.refused(36, "BEYOND: n above 4", Bounds.BEYOND, Bounds::filled, p -> p.feed(65, 5), p -> p.feed(65, Bounds.MAX));
    Bounds.test(36, "the 120th byte is taken, by each n", p -> {
      for (int n = 1; n <= 4; n++) {
        blanks(p, 120 - n);
        Bounds.due(p.feed(0, n), 120);
      }
    });
    Bounds.refused(36, "FULL: it would be 121: nothing of it is taken", Bounds.FULL, p -> blanks(p, 117), p -> p.feed(-1, 4));
    Bounds.refused(36, "FULL: with 119 bytes", Bounds.FULL, p -> blanks(p, 119), p -> p.feed(-1, 2), p -> p.feed(-1, 4));
    Bounds.refused(36, "FULL: with 120 bytes", Bounds.FULL, p -> blanks(p, 120), p -> p.feed(-1, 1), p -> p.feed(-1, 4));
    Bounds.refused(36, "BEYOND goes ahead of FULL", Bounds.BEYOND, p -> blanks(p, 120), p -> p.feed(0, 0), p -> p.feed(0, 5));
    Bounds.test(36, "behind what it has", p -> {
      Bounds.feed(p, "coin 4");
      p.feed('2', 1);
      Bounds.due(p.text(), 1);
      Bounds.due(p.count(2), 42);
    });
  }

  private static void wipe() {
    Bounds.test(37, "an empty one: 0", p -> {
      Bounds.due(p.wipe(), 0);
      Bounds.due(p.wipe(), 0);
      Bounds.due(p.status(-1), 0);
    });
    Bounds.test(37, "a full one: 120; 120 may come then", p -> {
      blanks(p, 120);
      Bounds.due(p.wipe(), 120);
      Bounds.due(p.count(5), 0);
      Bounds.due(p.wipe(), 0);
      for (int i = 1; i <= 30; i++) Bounds.due(p.feed(0, 4), 4 * i);
    });
    Bounds.alike(37, "all else stays", Bounds::filled, p -> p.text(), p -> {
      p.wipe();
      p.coin(7);
      p.grace(1, 0, 0);
    });
  }

  private static void text() {
    Bounds.test(38, "one ITEM", p -> {
      Bounds.due(Bounds.read(p, "coin 0"), 1);
      Bounds.due(p.count(2), 0);
    });
    Bounds.test(38, "a full TAPE: all 120 bytes are read, as many ITEMS as they can tell", p -> {
      String text = "coin1;coin2;coin3;coin4;coin5;coin6;coin7;coin8;coin9;coin1;coin2;coin3;coin4;coin5;coin6;coin7;coin8;coin9;coin1;coin23";
      Bounds.due(text.length(), 120);
      Bounds.due(Bounds.read(p, text), 20);
      Bounds.due(p.count(2), 23);
    });
    Bounds.test(38, "each KIND by its WORD", p -> {
      String[] words = {"house", "hut", "inn", "ruin", "church", "streeted", "tower"};
      for (int kind = 0; kind < 7; kind++) {
        StringBuilder text = new StringBuilder(words[kind]).append(" at ").append(kind).append(" 11");
        Bounds.due(Bounds.read(p, text.toString()), 1);
        Bounds.due(p.of(kind, 0), kind);
        Bounds.due(p.of(kind, 1), kind);
        Bounds.due(p.of(kind, 2), 11);
      }
      Bounds.due(p.count(2), 100);
    });
    Bounds.test(38, "THE TAPE is empty then", p -> {
      Bounds.read(p, "coin 5");
      Bounds.due(p.count(5), 0);
      Bounds.due(p.text(), -1);
    });
    Bounds.test(38, "item by item: of two that tell the same the latter holds", p -> {
      Bounds.due(Bounds.read(p, "worth 99 on 1 1;worth 0 on 1 1;coin 9;coin 8"), 4);
      Bounds.due(p.worth(1, 1, 0), 0);
      Bounds.due(p.count(2), 8);
    });
    Bounds.test(38, "worth also on a LOT on which one stands", p -> {
      Bounds.due(Bounds.read(p, "hut at 1 1;worth 7 on 1 1"), 2);
      Bounds.due(p.worth(1, 1, 0), 7);
    });
  }

  private static void tokens() {
    Bounds.test(38, "blanks need not stand between, where TOKENS end by themselves", p -> {
      Bounds.due(Bounds.read(p, "hut at1 2;worth3on4 5;coin6;ruin at 7 8"), 4);
      Bounds.due(p.of(0, 1) * 10 + p.of(0, 2), 12);
      Bounds.due(p.worth(4, 5, 0), 3);
      Bounds.due(p.of(1, 1) * 10 + p.of(1, 2), 78);
    });
    Bounds.test(38, "as many blanks as one likes stand between", p -> {
      Bounds.due(Bounds.read(p, "hut     at   1    2   ;    coin    6"), 2);
      Bounds.due(p.count(2), 6);
    });
    Bounds.test(38, "a WORD as long as can be: one that goes on is another", p -> {
      Bounds.due(Bounds.read(p, "huts at 1 1"), -1);
      Bounds.due(Bounds.read(p, "hutat 1 1"), -1);
      Bounds.due(Bounds.read(p, "hut atx 1 1"), -5);
      Bounds.due(Bounds.read(p, "worth 1 one 1 1"), -9);
      Bounds.due(Bounds.read(p, "coinz 1"), -1);
      Bounds.due(Bounds.read(p, "acoin 1"), -1);
    });
    Bounds.test(38, "one that ends too soon is another", p -> {
      for (String word : new String[] {"hous", "hu", "in", "rui", "churc", "streete", "towe", "street"}) {
        Bounds.due(Bounds.read(p, word + " at 1 1"), -1);
      }
      Bounds.due(Bounds.read(p, "coi 1"), -1);
      Bounds.due(Bounds.read(p, "wort 1 on 1 1"), -1);
      Bounds.due(Bounds.read(p, "hut a 1 1"), -5);
      Bounds.due(Bounds.read(p, "worth 1 o 1 1"), -9);
      Bounds.due(p.count(1), 0);
    });
    Bounds.test(38, "one that is other in one letter, the first, the last or one between, is another", p -> {
      for (String word : new String[] {"house", "hut", "inn", "streeted", "ruin", "church", "tower"}) {
        otherLetters(p, "", word, " at 1 1");
      }
      otherLetters(p, "", "worth", " 1 on 1 1");
      otherLetters(p, "", "coin", " 1");
      otherLetters(p, "hut ", "at", " 1 1");
      otherLetters(p, "worth 1 ", "on", " 1 1");
    });
    Bounds.test(38, "a NUMBER as long as can be: 11 is not 1 and 1", p -> {
      Bounds.due(Bounds.read(p, "hut at 11"), -10);
      Bounds.due(Bounds.read(p, "hut at 111"), -8);
      Bounds.due(Bounds.read(p, "hut at 1 1"), 1);
    });
    Bounds.test(38, "letters a and z, and the bytes beside them", p -> {
      Bounds.due(Bounds.read(p, "coin 1 z"), -8);
      Bounds.due(Bounds.read(p, "azaz"), -1);
      Bounds.due(Bounds.read(p, "coin{1"), -5);
      Bounds.due(Bounds.read(p, "coin`1"), -5);
      Bounds.due(Bounds.read(p, "coin1{"), -6);
      Bounds.due(Bounds.read(p, "COIN1"), -1);
      Bounds.due(Bounds.read(p, "coinA1"), -5);
      Bounds.due(Bounds.read(p, "coinZ1"), -5);
      Bounds.due(Bounds.read(p, "hut atB 1 1"), -7);
    });
    Bounds.test(38, "digits 0 and 9, and the bytes beside them", p -> {
      Bounds.due(Bounds.read(p, "coin 90"), 1);
      Bounds.due(p.count(2), 90);
      Bounds.due(Bounds.read(p, "coin 9/"), -7);
      Bounds.due(Bounds.read(p, "coin 9:"), -7);
      Bounds.due(Bounds.read(p, "coin /"), -6);
      Bounds.due(Bounds.read(p, "coin :"), -6);
    });
    Bounds.test(38, "the SIGN ; and the bytes beside it", p -> {
      Bounds.due(Bounds.read(p, "coin 1;coin 2"), 2);
      Bounds.due(Bounds.read(p, "coin 1:coin 2"), -7);
      Bounds.due(Bounds.read(p, "coin 1<coin 2"), -7);
    });
    Bounds.test(38, "a byte that begins no TOKEN: 0, 31, 33, 128, 255, a tab, an end of line", p -> {
      for (int b : new int[] {0, 9, 10, 13, 31, 33, 127, 128, 160, 187, 225, 255}) {
        Bounds.feed(p, "coin 1 ");
        p.feed(b, 1);
        Bounds.due(p.text(), -8);
        p.feed(b, 1);
        Bounds.due(p.text(), -1);
      }
      Bounds.due(p.count(2), 100);
    });
  }

  /** A text with each letter of a word, one at a time, put for its next: always the word is the fault. */
  private static void otherLetters(EqualPlain p, String ahead, String word, String behind) {
    for (int i = 0; i < word.length(); i++) {
      StringBuilder other = new StringBuilder(word);
      other.setCharAt(i, (char) (word.charAt(i) + 1));
      Bounds.due(Bounds.read(new EqualPlain(), ahead + other + behind), -1 - ahead.length());
    }
    Bounds.due(Bounds.read(p, ahead + word + behind) > 0 ? 1 : 0, 1);
    if (p.count(1) > 0) p.fire();
  }

  private static void lotsOfHouses() {
    Bounds.test(38, "a LOT on which one stands: its y is the FAULT", p -> {
      p.grace(0, 1, 2);
      Bounds.due(Bounds.read(p, "hut at 1 2"), -10);
      Bounds.due(Bounds.read(p, "hut at  01   02"), -14);
      Bounds.due(p.count(1), 1);
    });
    Bounds.test(38, "a LOT on which one of an ITEM ahead stands", p -> {
      Bounds.due(Bounds.read(p, "hut at 1 2;inn at 1 2"), -21);
      Bounds.due(p.count(1), 0);
      Bounds.due(Bounds.read(p, "hut at 1 2;inn at 2 1"), 2);
    });
    Bounds.test(38, "the 10th HOUSE is taken", p -> {
      Bounds.twoAndRuins(p, 7);
      Bounds.due(Bounds.read(p, "inn at 0 0"), 1);
      Bounds.due(p.of(9, 0), 2);
    });
    Bounds.test(38, "the WORD of an 11th HOUSE is the FAULT, whatever comes behind it", p -> {
      Bounds.ten(p);
      Bounds.due(Bounds.read(p, "inn at 0 0"), -1);
      Bounds.due(Bounds.read(p, "  inn"), -3);
      Bounds.due(Bounds.read(p, "coin 1; inn at 99 x"), -9);
      Bounds.due(p.count(2), 100);
      Bounds.due(Bounds.read(p, "coin 1;worth 1 on 0 0"), 2);
    });
    Bounds.test(38, "the 11th of one TEXT", p -> {
      StringBuilder text = new StringBuilder();
      for (int x = 0; x < 10; x++) text.append("hut at").append(x).append(" 0;");
      Bounds.due(Bounds.read(p, text + "hut at 0 1"), -101);
      Bounds.due(p.count(1), 0);
      Bounds.due(Bounds.read(p, text + "coin 1"), 11);
      Bounds.due(p.count(1), 10);
    });
    Bounds.test(38, "x and y 0 and 11 are taken, 12 is the FAULT", p -> {
      Bounds.due(Bounds.read(p, "hut at 0 0;hut at 11 11;worth 1 on 0 11;worth 2 on 11 0"), 4);
      Bounds.due(p.of(1, 1) + p.of(1, 2), 22);
      Bounds.due(p.worth(0, 11, 0), 1);
      Bounds.due(p.worth(11, 0, 0), 2);
      Bounds.due(Bounds.read(p, "hut at 12 1"), -8);
      Bounds.due(Bounds.read(p, "hut at 1 12"), -10);
      Bounds.due(Bounds.read(p, "worth 1 on 12 1"), -12);
      Bounds.due(Bounds.read(p, "worth 1 on 1 12"), -14);
    });
  }

  private static void numbers() {
    Bounds.test(38, "worth 0 and 99 are taken, 100 is the FAULT", p -> {
      Bounds.due(Bounds.read(p, "worth 99 on 1 1"), 1);
      Bounds.due(p.count(4), 99);
      Bounds.due(Bounds.read(p, "worth 0 on 1 1"), 1);
      Bounds.due(p.count(4), 0);
      Bounds.due(Bounds.read(p, "worth 100 on 1 1"), -7);
    });
    Bounds.test(38, "coin 0 and 99999 are taken, 100000 is the FAULT", p -> {
      Bounds.due(Bounds.read(p, "coin 99999"), 1);
      Bounds.due(p.count(2), 99999);
      Bounds.due(Bounds.read(p, "coin 0"), 1);
      Bounds.due(p.count(2), 0);
      Bounds.due(Bounds.read(p, "coin 100000"), -6);
    });
    Bounds.test(38, "a NUMBER too great by its last digits", p -> {
      Bounds.due(Bounds.read(p, "coin 999990"), -6);
      Bounds.due(Bounds.read(p, "coin 999999"), -6);
      Bounds.due(Bounds.read(p, "coin 9999999"), -6);
      Bounds.due(Bounds.read(p, "worth 990 on 1 1"), -7);
      Bounds.due(Bounds.read(p, "hut at 110 1"), -8);
      Bounds.due(Bounds.read(p, "hut at 1 99999999"), -10);
    });
    Bounds.test(38, "a NUMBER that would go round is the FAULT: of an int, a long, and longer", p -> {
      Bounds.due(Bounds.read(p, "coin 2147483648"), -6);
      Bounds.due(Bounds.read(p, "coin 4294967296"), -6);
      Bounds.due(Bounds.read(p, "coin 4294967301"), -6);
      Bounds.due(Bounds.read(p, "coin 18446744073709551616"), -6);
      Bounds.due(Bounds.read(p, "coin 18446744073709551621"), -6);
      Bounds.due(Bounds.read(p, "coin 340282366920938463463374607431768211456"), -6);
      Bounds.due(Bounds.read(p, "hut at 4294967297 1"), -8);
    });
    Bounds.test(38, "noughts ahead of a NUMBER", p -> {
      Bounds.due(Bounds.read(p, "coin 000000000000000000099999"), 1);
      Bounds.due(p.count(2), 99999);
      Bounds.due(Bounds.read(p, "hut at 0011 000;worth 0099 on 01 01"), 2);
      Bounds.due(p.of(0, 1), 11);
      Bounds.due(p.count(4), 99);
    });
    Bounds.test(38, "a NUMBER below 0 has no SIGN to begin with", p -> {
      Bounds.due(Bounds.read(p, "coin -1"), -6);
      Bounds.due(Bounds.read(p, "coin +1"), -6);
    });
  }

  private static void tooEarly() {
    Bounds.test(38, "it ends too early: how many bytes there are: an empty TAPE", p -> Bounds.due(p.text(), -1));
    Bounds.test(38, "it ends too early: just blanks", p -> {
      Bounds.due(Bounds.read(p, " "), -2);
      blanks(p, 120);
      Bounds.due(p.text(), -121);
    });
    Bounds.test(38, "it ends too early: behind each TOKEN", p -> {
      String[] texts = {"house", "house at", "house at 1", "worth", "worth 1", "worth 1 on", "worth 1 on 1", "coin",
          "coin 1;", "coin 1;house", "coin 1;house at 1", "house at 1 1;"};
      for (String text : texts) Bounds.due(Bounds.read(p, text), -1 - text.length());
      for (String text : texts) Bounds.due(Bounds.read(p, text + "  "), -3 - text.length());
      Bounds.due(p.count(1), 0);
      Bounds.due(p.count(2), 100);
    });
  }

  private static void wrongTokens() {
    Bounds.test(38, "an ITEM can't begin so", p -> {
      for (String text : new String[] {"at", "on 1", "5", ";", "shed at 1 1", "a"}) {
        Bounds.due(Bounds.read(p, text), -1);
        Bounds.due(Bounds.read(p, "coin 1;" + text), -8);
        Bounds.due(Bounds.read(p, "  " + text), -3);
      }
    });
    Bounds.test(38, "behind house: at alone", p -> {
      for (String token : new String[] {"on", "5", ";", "house", "."}) Bounds.due(Bounds.read(p, "house " + token + " 1 1"), -7);
    });
    Bounds.test(38, "behind at and behind x: a NUMBER alone", p -> {
      for (String token : new String[] {"on", ";", "at", "."}) {
        Bounds.due(Bounds.read(p, "hut at " + token), -8);
        Bounds.due(Bounds.read(p, "hut at 1 " + token), -10);
      }
    });
    Bounds.test(38, "behind worth a NUMBER, then on alone, then NUMBERS", p -> {
      for (String token : new String[] {"at", ";", "worth", "."}) {
        Bounds.due(Bounds.read(p, "worth " + token), -7);
        Bounds.due(Bounds.read(p, "worth 1 " + token), -9);
        Bounds.due(Bounds.read(p, "worth 1 on " + token), -12);
        Bounds.due(Bounds.read(p, "worth 1 on 1 " + token), -14);
      }
      Bounds.due(Bounds.read(p, "worth on 1 1"), -7);
      Bounds.due(Bounds.read(p, "worth 1 1 1"), -9);
    });
    Bounds.test(38, "behind coin a NUMBER alone", p -> {
      for (String token : new String[] {"at", ";", "coin", "."}) Bounds.due(Bounds.read(p, "coin " + token), -6);
    });
    Bounds.test(38, "behind an ITEM: ; or the end", p -> {
      for (String token : new String[] {"coin", "5", "at", ".", "house"}) {
        Bounds.due(Bounds.read(p, "coin 1 " + token), -8);
        Bounds.due(Bounds.read(p, "hut at 1 1 " + token), -12);
        Bounds.due(Bounds.read(p, "worth 1 on 1 1 " + token), -16);
      }
      Bounds.due(Bounds.read(p, "coin 1;;coin 2"), -8);
      Bounds.due(Bounds.read(p, "coin 1;;"), -8);
    });
  }

  private static void faults() {
    Bounds.test(38, "a FAULT is no finding", p -> {
      Bounds.due(Bounds.read(p, "shed"), -1);
      Bounds.due(Bounds.read(p, "coin"), -5);
      for (int which = -1; which < 7; which++) Bounds.due(p.status(which), 0);
    });
    Bounds.alike(38, "with a FAULT nothing changes but that THE TAPE is empty", p -> {
      Bounds.filled(p);
      p.wipe();
      Bounds.feed(p, "coin 1;hut at 0 0;worth 9 on 1 1;church at 5 5;worth 100 on 1 1");
    }, p -> p.wipe(), p -> Bounds.due(p.text(), -54));
    Bounds.alike(38, "with a FAULT at the end: as if nothing were told", p -> {
      Bounds.filled(p);
      p.wipe();
      Bounds.feed(p, "coin 1;hut at 0 0;worth 9 on 1 1;");
    }, p -> p.wipe(), p -> Bounds.due(p.text(), -34));
    Bounds.alike(38, "a TEXT and the same calls come to the same", p -> {
      Bounds.filled(p);
      p.wipe();
    }, p -> {
      p.coin(1);
      p.grace(1, 0, 0);
      p.worth(1, 1, 9);
    }, p -> Bounds.due(Bounds.read(p, "coin 1;hut at 0 0;worth 9 on 1 1"), 3));
    Bounds.test(38, "the first TOKEN that can't stand there, not a later one", p -> {
      Bounds.due(Bounds.read(p, "house on 12 12;shed"), -7);
      Bounds.due(Bounds.read(p, "house at 12 12;shed"), -10);
    });
  }
}
