/** Promises 10 to 12, 16, 23 to 26, 31 and 32: numbers of guests, mistakes, lots, bakings. */
public final class NumbersTest {
  private NumbersTest() {
  }

  public static void main(String[] args) {
    best();
    out();
    scale();
    enough();
    mistake();
    more();
    lots();
    used();
    seeds();
    back();
    Check.end("NumbersTest");
  }

  private static void best() {
    TwoThirdsOfAnEgg egg = Check.told("f6;p1113;");
    int[][] rows = {{1, 24, 2}, {1, 1, 1}, {3, 3, 3}, {3, 24, 4}, {1, 2, 2}, {23, 24, 24}, {24, 24, 24}};
    for (int[] row : rows) {
      Check.due("best(" + row[0] + ", " + row[1] + ")", egg.best(row[0], row[1]), row[2]);
    }
    Check.due("best without COST", Check.told("f6;p1103;").best(1, 24), 1);
    Check.due("best of sums", Check.told("f6;p1113;p1114;").best(2, 3), 2);
    Check.due("best of sums at other COST", Check.told("f6;p1113;p1124;").best(2, 3), 3);
    Check.due("best LOOSE", Check.told("f9;p4113;").best(1, 24), 9);
    Check.due("GUESTS aside", egg.count(2), 4);
  }

  private static void out() {
    for (String part : new String[] {"p1113;", "p1103;"}) {
      TwoThirdsOfAnEgg egg = Check.told("f6;" + part);
      Check.due("out(-1) of " + part, egg.out(-1), 12);
      Check.due("out(0) of " + part, egg.out(0), 2);
      Check.due("out(1) of " + part, egg.out(1), 4);
      Check.due("out(11) of " + part, egg.out(11), 24);
      Check.due("out(12) of " + part, egg.out(12), -9);
      Check.due("out(greatest) of " + part, egg.out(Integer.MAX_VALUE), -9);
    }
    TwoThirdsOfAnEgg two = Check.told("f6;p1113;p4108;");
    Check.due("LOOSE comes out but FOR that many", two.out(-1), 1);
    Check.due("just FOR that many", two.out(0), 6);
    Check.due("none", Check.told("f23;p4111;p1102;p1101;").out(0), 23);
    Check.due("one packet comes out", Check.told("f24;p3213;").out(-1), 1);
    TwoThirdsOfAnEgg none = Check.told("f24;p3911;");
    Check.due("none comes out", none.out(-1), 0);
    Check.due("the first of none", none.out(0), -9);
  }

  private static void scale() {
    for (String number : new String[] {"f6;", "f7;"}) {
      TwoThirdsOfAnEgg egg = Check.told(number + "p1113;");
      scaleDue(egg, 1, 240, 8, 0, 1);
      scaleDue(egg, 1, 7, 7, 3, 2);
      scaleDue(egg, 9, 240, 16, 0, 1);
      scaleDue(egg, 1, 1, 1, 21, 2);
      scaleDue(egg, 16, 24, 16, 0, 1);
      scaleDue(egg, 7, 9, 8, 0, 1);
      scaleDue(egg, 240, 240, 240, 0, 1);
      scaleDue(Check.told(number + "p1113;p1115;"), 1, 12, 9, 3, 2);
      scaleDue(Check.told(number + "p1113;p1135;"), 1, 12, 10, 3, 1);
      scaleDue(Check.told(number + "p1113;p1115;"), 10, 12, 10, 3, 1);
      scaleDue(Check.told(number + "p1113;p1105;"), 1, 240, 8, 0, 1);
      scaleDue(Check.told(number + "p4121;"), 1, 23, 23, 1, 1);
    }
    scaleDue(new TwoThirdsOfAnEgg(), 17, 240, 17, 0, 1);
  }

  private static void scaleDue(TwoThirdsOfAnEgg egg, int c, int e, int scale, int above, int below) {
    String what = "scale(" + c + ", " + e + ", ";
    Check.due(what + "0)", egg.scale(c, e, 0), scale);
    Check.due(what + "1)", egg.scale(c, e, 1), above);
    Check.due(what + "2)", egg.scale(c, e, 2), below);
  }

  private static void enough() {
    TwoThirdsOfAnEgg egg = Check.told("f6;p1113;p3217;h0=2;h1=6;");
    Check.due("enough", egg.enough(), 5);
    egg.house(1, 5);
    Check.due("enough but for a packet", egg.enough(), 3);
    egg.house(1, 2);
    Check.due("enough for one", egg.enough(), 1);
    egg.house(0, 0);
    Check.due("enough of nothing", egg.enough(), 0);
    egg.house(0, 99);
    egg.house(1, 99);
    Check.due("enough of all", egg.enough(), 24);
    TwoThirdsOfAnEgg near = Check.told("f6;p0114;h0=2;");
    Check.due("just 24 twelfths", near.enough(), 3);
  }

  private static void mistake() {
    TwoThirdsOfAnEgg egg = Check.told("f6;p0114;p4111;");
    int[][] rows = {{0, 0, 1}, {0, 1, 2}, {0, 2, 3}, {0, 3, 5}, {0, 666, 999}, {0, 667, -9}, {0, 999, -9},
        {1, 1, 6}, {1, 166, 996}, {1, 167, -9}};
    for (int[] row : rows) {
      Check.due("mistake(" + row[0] + ", " + row[1] + ")", egg.mistake(row[0], row[1]), row[2]);
    }
  }

  private static void more() {
    TwoThirdsOfAnEgg egg = Check.told("f6;p0114;p1113;");
    int[][] rows = {{0, 3, 1, 1}, {0, 2, 1, 0}, {0, 6, 1, 3}, {0, 0, 1, 0}, {0, 667, 1, -9}, {0, 666, 1, 498},
        {0, 3, 0, 1}, {1, 3, 0, 2}, {1, 2, 0, 0}};
    for (int[] row : rows) {
      String what = "more(" + row[0] + ", " + row[1] + ", " + row[2] + ")";
      Check.due(what, egg.more(row[0], row[1], row[2]), row[3]);
    }
  }

  /** Each with GUESTS, x, y. */
  private static void lots() {
    int[][] rows = {{4, 1, 1, 4}, {4, 2, 4, 1}, {4, 3, 5, 1}, {4, 4, 4, 1}, {4, 4, 3, 100}, {7, 2, 3, 201},
        {7, 3, 4, 101}, {24, 1, 24, 1}, {24, 24, 1, 100}, {24, 5, 7, 202}, {24, 1, 1, 24}, {24, 24, 24, 1},
        {24, 12, 6, 200}, {24, 6, 4, 400}, {1, 24, 23, 1}, {1, 23, 24, 100}, {23, 1, 24, 2300}, {5, 4, 3, 2},
        {24, 23, 1, 101}, {24, 1, 23, 101}};
    for (int[] row : rows) {
      TwoThirdsOfAnEgg egg = new TwoThirdsOfAnEgg();
      egg.guests(row[0]);
      Check.due(row[0] + " GUESTS: lots(" + row[1] + ", " + row[2] + ")", egg.lots(row[1], row[2]), row[3]);
    }
  }

  private static void used() {
    Check.due("used without PARTS", new TwoThirdsOfAnEgg().used(), 24);
    Check.due("used of 28 twelfths", Check.told("f6;p3311;").used(), 14);
    Check.due("used of 28 and 16 twelfths", Check.told("f6;p3311;p3211;").used(), 8);
    Check.due("used of 100 twelfths", Check.told("f6;p3911;").used(), 24);
    Check.due("used of nothing", Check.told("f6;p3311;p1113;").used(), 0);
    TwoThirdsOfAnEgg egg = Check.told("f7;p3111;");
    egg.guests(1);
    Check.due("used of 10 twelfths FOR 7", egg.used(), 5);
    TwoThirdsOfAnEgg one = Check.told("f6;p1113;");
    one.guests(1);
    Check.due("used of 6 twelfths", one.used(), 1);
  }

  /** From 1 the numbers are 15, 23, 10, 20, 20. */
  private static void seeds() {
    TwoThirdsOfAnEgg egg = Check.told("f7;p1112;h0=5;");
    Check.due("seeds(1, 1, 0)", egg.seeds(1, 1, 0), 24);
    Check.due("seeds(1, 1, 1)", egg.seeds(1, 1, 1), 7);
    Check.due("seeds(3, 1, 0)", egg.seeds(3, 1, 0), 72);
    Check.due("seeds(3, 1, 1)", egg.seeds(3, 1, 1), 7);
    Check.due("seeds(3, 1, 2)", egg.seeds(3, 1, 2), 2);
    Check.due("seeds(2, 1, 2)", egg.seeds(2, 1, 2), 1);
    TwoThirdsOfAnEgg six = Check.told("f6;p1113;h0=10;");
    Check.due("seeds in least terms, above", six.seeds(5, 1, 0), 12);
    Check.due("seeds in least terms, below", six.seeds(5, 1, 1), 1);
    Check.due("enough in five", six.seeds(5, 1, 2), 4);
    Check.due("without PARTS, above", new TwoThirdsOfAnEgg().seeds(20, -5, 0), 0);
    Check.due("without PARTS, below", new TwoThirdsOfAnEgg().seeds(20, -5, 1), 1);
    Check.due("without PARTS, enough", new TwoThirdsOfAnEgg().seeds(20, -5, 2), 20);
    Check.due("seven of 15, 23, 10, 20, 20, 12, 19, 4, 13, 7", Check.told("f1;p0111;h0=19;").seeds(10, 1, 2), 7);
    TwoThirdsOfAnEgg below = Check.told("f12;p4111;");
    // -1 becomes -1103502900 (sign off: 1043980748, over 65536: 15929, by 24: 17): 18 GUESTS of 12
    Check.due("a seed below nought", below.seeds(1, -1, 0), 6);
  }

  private static void back() {
    TwoThirdsOfAnEgg egg = new TwoThirdsOfAnEgg();
    Check.due("back of none", egg.back(), -3);
    egg.guests(5);
    egg.guests(7);
    egg.guests(7);
    Check.due("that can be taken BACK", egg.count(17), 3);
    Check.due("back", egg.back(), 7);
    Check.due("back once more", egg.back(), 5);
    Check.due("GUESTS then", egg.count(2), 5);
    Check.due("back to the first", egg.back(), 4);
    Check.due("back of no more", egg.back(), -3);
    for (int g = 1; g <= 10; g++) {
      egg.guests(g);
    }
    Check.due("eight at most", egg.count(17), 8);
    for (int g = 9; g >= 2; g--) {
      Check.due("back to " + g, egg.back(), g);
    }
    Check.due("older ones no more", egg.back(), -3);
    egg.guests(3);
    egg.guests(0);
    egg.guests(25);
    Check.tell(egg, "f0;");
    Check.tell(egg, "f");
    egg.restore();
    Check.due("what was refused leaves it", egg.count(17), 1);
    egg.image();
    Check.due("an image leaves it", egg.count(17), 1);
    Check.tell(egg, "f8;");
    Check.due("a BOOK leaves none", egg.count(17), 0);
    Check.due("GUESTS stay", egg.count(2), 3);
    egg.guests(9);
    egg.restore();
    Check.due("restore leaves none", egg.back(), -3);
  }
}
