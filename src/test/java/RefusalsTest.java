/**
 * The REFUSALS of every promise, in the order in which it tells them: each call is wrong in all ways
 * that come behind the one that is due, as far as a call can be. Nothing changes but how many there were.
 */
public final class RefusalsTest {
  private static final int LEAST = Integer.MIN_VALUE;
  private static final int GREATEST = Integer.MAX_VALUE;

  private RefusalsTest() {
  }

  public static void main(String[] args) {
    TwoThirdsOfAnEgg egg = Check.told("f8;p0113;p1112;h0=3;to9;tq8;s01123;c010203;");
    egg.row(1);
    String before = Check.all(egg);
    partsAndGuests(egg);
    shares(egg);
    numbers(egg);
    tinsAndCups(egg);
    mistakes(egg);
    rowsAndSeeds(egg);
    pricesAndWeights(egg);
    ovenAndRecipes(egg);
    dishes(egg);
    Check.due("all behind them", Check.all(egg), before);
    Check.due("in the ROW", egg.count(7), 1);
    Check.due("letters", egg.count(6), 0);
    Check.due("BACK", egg.count(17), 0);
    counted();
    fullOnes();
    Check.end("RefusalsTest");
  }

  private static void partsAndGuests(TwoThirdsOfAnEgg egg) {
    for (int part : new int[] {-1, 2, 8, LEAST, GREATEST}) {
      Check.due("part(" + part + ", 7)", egg.part(part, 7), -1);
      Check.due("house(" + part + ", 100)", egg.house(part, 100), -1);
      Check.due("house(" + part + ", -1)", egg.house(part, -1), -1);
      Check.due("stead(" + part + ")", egg.stead(part), -1);
    }
    for (int what : new int[] {-1, 7, LEAST, GREATEST}) {
      Check.due("part(1, " + what + ")", egg.part(1, what), -2);
    }
    Check.due("guests(0)", egg.guests(0), -4);
    Check.due("guests(least)", egg.guests(LEAST), -4);
    Check.due("guests(25)", egg.guests(25), -6);
    Check.due("guests(greatest)", egg.guests(GREATEST), -6);
    Check.due("house(0, -1)", egg.house(0, -1), -4);
    Check.due("house(0, 100)", egg.house(0, 100), -6);
    Check.due("set(-1, 0)", egg.set(-1, 0), -2);
    Check.due("set(2, 1000)", egg.set(2, 1000), -2);
    Check.due("set(0, 0)", egg.set(0, 0), -4);
    Check.due("set(1, 0)", egg.set(1, 0), -4);
    Check.due("set(0, 1000)", egg.set(0, 1000), -6);
    Check.due("set(1, 100)", egg.set(1, 100), -6);
  }

  private static void shares(TwoThirdsOfAnEgg egg) {
    for (int part : new int[] {-1, 2, LEAST, GREATEST}) {
      Check.due("share(" + part + ", 0, 2)", egg.share(part, 0, 2), Check.NOBODY);
      Check.due("share(" + part + ", 25, 2)", egg.share(part, 25, 2), Check.NOBODY);
    }
    Check.due("share(0, 0, 2)", egg.share(0, 0, 2), Check.BELOW);
    Check.due("share(0, least, 0)", egg.share(0, LEAST, 0), Check.BELOW);
    Check.due("share(0, 25, 2)", egg.share(0, 25, 2), Check.ROOM);
    Check.due("share(0, 24, 2)", egg.share(0, 24, 2), Check.OTHER);
    Check.due("share(0, 1, -1)", egg.share(0, 1, -1), Check.OTHER);
    Check.due("off(-2, 2)", egg.off(-2, 2), Check.NOBODY);
    Check.due("off(2, 0)", egg.off(2, 0), Check.NOBODY);
    Check.due("off(-1, 2)", egg.off(-1, 2), Check.OTHER);
    Check.due("off(0, -1)", egg.off(0, -1), Check.OTHER);
  }

  private static void numbers(TwoThirdsOfAnEgg egg) {
    int[][] pairs = {{0, 25, -4}, {25, 0, -4}, {0, 0, -4}, {LEAST, GREATEST, -4}, {25, 1, -6}, {1, 25, -6},
        {25, 24, -6}, {2, 1, -3}, {24, 23, -3}};
    for (int[] pair : pairs) {
      String ends = "(" + pair[0] + ", " + pair[1] + ")";
      Check.due("best" + ends, egg.best(pair[0], pair[1]), pair[2]);
      Check.due("cheapest" + ends, egg.cheapest(pair[0], pair[1]), pair[2]);
    }
    int[][] lots = {{0, 25, -4}, {25, 0, -4}, {25, 1, -6}, {1, 25, -6}, {LEAST, GREATEST, -4}};
    for (int[] pair : lots) {
      Check.due("lots(" + pair[0] + ", " + pair[1] + ")", egg.lots(pair[0], pair[1]), pair[2]);
    }
    int[][] scales = {{0, 241, 3, -4}, {241, 0, 3, -4}, {241, 1, 3, -6}, {1, 241, 3, -6}, {2, 1, 3, -3},
        {240, 239, -1, -3}, {1, 1, 3, -2}, {1, 240, -1, -2}};
    for (int[] row : scales) {
      String what = "scale(" + row[0] + ", " + row[1] + ", " + row[2] + ")";
      Check.due(what, egg.scale(row[0], row[1], row[2]), row[3]);
    }
    Check.due("out(-2)", egg.out(-2), -4);
    Check.due("out(least)", egg.out(LEAST), -4);
  }

  private static void tinsAndCups(TwoThirdsOfAnEgg egg) {
    for (int i : new int[] {-1, 2, 5, LEAST, GREATEST}) {
      Check.due("tin(" + i + ", 4)", egg.tin(i, 4), -1);
      Check.due("deep(" + i + ", 2)", egg.deep(i, 2), Check.NOBODY);
      Check.due("standIn(" + i + ", 5)", egg.standIn(i, 5), -1);
    }
    Check.due("standIn(1, 0)", egg.standIn(1, 0), -1);
    for (int what : new int[] {-1, 5, LEAST, GREATEST}) {
      Check.due("tin(1, " + what + ")", egg.tin(1, what), -2);
      Check.due("deep(1, " + what + ")", egg.deep(1, what), Check.OTHER);
      Check.due("standIn(0, " + what + ")", egg.standIn(0, what), -2);
    }
    Check.due("tin(0, 4)", egg.tin(0, 4), -2);
    Check.due("deep(0, 2)", egg.deep(0, 2), Check.OTHER);
    Check.due("cup(-1, 13)", egg.cup(-1, 13), -1);
    Check.due("cup(3, -1)", egg.cup(3, -1), -1);
    Check.due("cup(2, -1)", egg.cup(2, -1), -4);
    Check.due("cup(0, 13)", egg.cup(0, 13), -6);
    Check.due("pours(0)", egg.pours(0), -4);
    Check.due("pours(13)", egg.pours(13), -6);
    int[][] steps = {{-1, 13, 13, -4}, {13, -1, 13, -4}, {13, 13, -1, -4}, {13, 0, 0, -6}, {0, 13, 0, -6},
        {0, 0, 13, -6}, {LEAST, 0, GREATEST, -4}};
    for (int[] row : steps) {
      String what = "steps(" + row[0] + ", " + row[1] + ", " + row[2] + ")";
      Check.due(what, egg.steps(row[0], row[1], row[2]), row[3]);
    }
    int[][] paths = {{0, -1, -4}, {13, -1, -4}, {0, 0, -4}, {1, -1, -4}, {13, 0, -6}, {GREATEST, LEAST, -4}};
    for (int[] row : paths) {
      Check.due("path(" + row[0] + ", " + row[1] + ")", egg.path(row[0], row[1]), row[2]);
    }
  }

  private static void mistakes(TwoThirdsOfAnEgg egg) {
    int[][] mistakes = {{-1, -1, -1}, {2, 1000, -1}, {0, -1, -4}, {0, LEAST, -4}, {0, 1000, -6}, {1, GREATEST, -6}};
    for (int[] row : mistakes) {
      Check.due("mistake(" + row[0] + ", " + row[1] + ")", egg.mistake(row[0], row[1]), row[2]);
    }
    int[][] two = {{-1, -1, 0, -1}, {0, -1, 2, -1}, {2, 1000, 2, -1}, {0, 1000, -1, -1}, {0, -1, 1, -4},
        {1, 1000, 0, -6}};
    for (int[] row : two) {
      String args = "(" + row[0] + ", " + row[1] + ", " + row[2] + ")";
      Check.due("more" + args, egg.more(row[0], row[1], row[2]), row[3]);
      Check.due("needed" + args, egg.needed(row[0], row[1], row[2]), row[3]);
    }
    int[][] same = {{0, 0, 0}, {1, 99, 1}, {0, -1, 0}, {1, 100, 1}, {0, LEAST, 0}, {1, GREATEST, 1}};
    for (int[] row : same) {
      String args = "(" + row[0] + ", " + row[1] + ", " + row[2] + ")";
      Check.due("needed" + args, egg.needed(row[0], row[1], row[2]), -1);
    }
    Check.due("needed(0, 100, 1)", egg.needed(0, 100, 1), -6);
    Check.due("more(0, 100, 1)", egg.more(0, 100, 1), 66);
  }

  private static void rowsAndSeeds(TwoThirdsOfAnEgg egg) {
    Check.due("row(-1)", egg.row(-1), -4);
    Check.due("row(100)", egg.row(100), -6);
    Check.due("read(-1)", egg.read(-1), -2);
    Check.due("read(3)", egg.read(3), -2);
    for (int what = 0; what <= 2; what++) {
      Check.due("read(" + what + ")", egg.read(what), -3);
    }
    Check.due("judge()", egg.judge(), -3);
    Check.due("seeds(0, 1, 3)", egg.seeds(0, 1, 3), Check.BELOW);
    Check.due("seeds(least, 1, 3)", egg.seeds(LEAST, 1, 3), Check.BELOW);
    Check.due("seeds(21, 1, 3)", egg.seeds(21, 1, 3), Check.ROOM);
    Check.due("seeds(20, 1, 3)", egg.seeds(20, 1, 3), Check.OTHER);
    Check.due("seeds(1, 1, -1)", egg.seeds(1, 1, -1), Check.OTHER);
    Check.due("back()", egg.back(), -3);
    Check.due("restore()", egg.restore(), -3);
    Check.due("feed(-1)", egg.feed(-1), -4);
    Check.due("feed(256)", egg.feed(256), -6);
  }

  private static void pricesAndWeights(TwoThirdsOfAnEgg egg) {
    int[][] rows = {{-1, -1, -1}, {2, 100, -1}, {GREATEST, 0, -1}, {0, -1, -4}, {1, LEAST, -4}, {0, 100, -6},
        {1, GREATEST, -6}};
    for (int[] row : rows) {
      Check.due("price(" + row[0] + ", " + row[1] + ")", egg.price(row[0], row[1]), row[2]);
      Check.due("also(" + row[0] + ", " + row[1] + ")", egg.also(row[0], row[1]), row[2]);
    }
    Check.due("buy(0)", egg.buy(0), -4);
    Check.due("buy(25)", egg.buy(25), -6);
    Check.due("weight(0)", egg.weight(0), -4);
    Check.due("weight(41)", egg.weight(41), -6);
    Check.due("weighed(0, 2)", egg.weighed(0, 2), -4);
    Check.due("weighed(201, 2)", egg.weighed(201, 2), -6);
    Check.due("weighed(200, 2)", egg.weighed(200, 2), -2);
    Check.due("weighed(1, -1)", egg.weighed(1, -1), -2);
  }

  private static void ovenAndRecipes(TwoThirdsOfAnEgg egg) {
    Check.due("oven(0, 3)", egg.oven(0, 3), -4);
    Check.due("oven(4, 3)", egg.oven(4, 3), -6);
    Check.due("oven(3, 3)", egg.oven(3, 3), -2);
    Check.due("oven(1, -1)", egg.oven(1, -1), -2);
    Check.due("recipes(2)", egg.recipes(2), -2);
    Check.due("recipes(-1)", egg.recipes(-1), -2);
    Check.due("usedUp(2)", egg.usedUp(2), -2);
    Check.due("usedUp(-1)", egg.usedUp(-1), -2);
    TwoThirdsOfAnEgg empty = new TwoThirdsOfAnEgg();
    Check.due("fair(2) of an empty ROW", empty.fair(2), -2);
    Check.due("fair(-1) of an empty ROW", empty.fair(-1), -2);
    Check.due("fair(0) of an empty ROW", empty.fair(0), -3);
    Check.row(empty, 5, 6, 0);
    Check.due("fair(0), one is 0", empty.fair(0), -3);
    Check.due("fair(1), one is 0", empty.fair(1), -3);
    Check.due("fair(2), one is 0", empty.fair(2), -2);
    Check.row(empty, 0, 6, 5);
    Check.due("fair(0), the first is 0", empty.fair(0), -3);
  }

  private static void dishes(TwoThirdsOfAnEgg egg) {
    int[][] rows = {{-1, -1, 0, -1, -1, -1}, {0, -1, 2, 100, 100, -1}, {2, 100, 2, 100, 100, -1},
        {0, -1, 1, 100, 100, -4}, {0, 100, 1, -1, 100, -4}, {0, 100, 1, 100, -1, -4}, {0, 100, 1, 0, 0, -6},
        {0, 0, 1, 100, 0, -6}, {0, 0, 1, 0, 100, -6}};
    for (int[] row : rows) {
      String what = "dish(" + row[0] + ", " + row[1] + ", " + row[2] + ", " + row[3] + ", " + row[4] + ")";
      Check.due(what, egg.dish(row[0], row[1], row[2], row[3], row[4]), row[5]);
    }
  }

  private static void counted() {
    TwoThirdsOfAnEgg egg = new TwoThirdsOfAnEgg();
    egg.part(0, 0);
    egg.share(0, 0, 0);
    egg.recipes(5);
    egg.seeds(1, 1, 5);
    egg.seeds(1, 1, 6);
    egg.back();
    egg.restore();
    egg.best(2, 1);
    egg.guests(0);
    egg.row(100);
    Check.due("REFUSALS", Check.refusals(egg), "2 3 3 1 1");
    Check.due("REFUSALS -5", egg.count(15), 0);
    egg.pours(12);
    egg.out(24);
    egg.tinFor();
    egg.book();
    egg.judge();
    egg.count(99);
    Check.due("-9 and a FAULT are none", Check.refusals(egg), "2 3 3 1 1");
  }

  /** What is full refuses behind what is out of range; -4 comes ahead of -6 in any case. */
  private static void fullOnes() {
    TwoThirdsOfAnEgg egg = Check.told("p0111;");
    for (int i = 0; i < 8; i++) {
      egg.row(1);
      egg.weight(1);
      egg.dish(0, 1, 0, 1, 1);
    }
    Check.due("row(-1), full", egg.row(-1), -4);
    Check.due("row(99), full", egg.row(99), -6);
    Check.due("weight(0), full", egg.weight(0), -4);
    Check.due("weight(40), full", egg.weight(40), -6);
    Check.due("dish of no PART, full", egg.dish(1, 1, 0, 1, 1), -1);
    Check.due("dish below, full", egg.dish(0, 1, 0, 1, -1), -4);
    Check.due("dish, full", egg.dish(0, 0, 0, 0, 0), -6);
    Check.due("DISHES", egg.count(18), 4);
    Check.due("WEIGHTS", egg.count(10), 5);
    Check.due("in the ROW", egg.count(7), 8);
  }
}
