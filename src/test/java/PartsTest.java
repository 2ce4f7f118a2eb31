/** Promises 4 to 9: PARTS, GUESTS, HOUSE, VOLUME and TIME, SHARE, OFF. */
public final class PartsTest {
  private PartsTest() {
  }

  public static void main(String[] args) {
    takenAndLeft();
    guests();
    house();
    settings();
    shares();
    off();
    Check.end("PartsTest");
  }

  /** Each with FOR, GUESTS, a PART, TAKEN, LEFT. */
  private static void takenAndLeft() {
    Object[][] rows = {
        // PART: the nearest twelfth, of two the less
        {24, 1, "p0111;", 0, 0}, {24, 3, "p0111;", 1, 10}, {24, 5, "p0111;", 2, 9}, {3, 1, "p0112;", 8, 4},
        {7, 3, "p0115;", 26, 10}, {7, 1, "p0113;", 5, 6}, {1, 24, "p01199;", 28512, 0},
        // WHOLE: the nearest, of two the less, one at least
        {6, 4, "p1111;", 12, 4}, {6, 1, "p1111;", 12, 10}, {6, 3, "p1113;", 12, 0}, {6, 5, "p1113;", 24, 0},
        {6, 4, "p1114;", 36, 4}, {6, 7, "p1913;", 36, 0}, {24, 1, "p1111;", 12, 11},
        // SPOON: STEPS of twelfths, of two the less
        {6, 4, "p2511;", 10, 4}, {6, 3, "p2411;", 4, 6}, {6, 1, "p2911;", 0, 0}, {24, 1, "p2111;", 0, 0},
        {6, 4, "p2914;", 36, 4}, {6, 5, "p2411;", 8, 2}, {6, 7, "p2411;", 12, 0},
        // PACKET: wholes in STEPS, rounded up
        {6, 4, "p3317;", 72, 16}, {6, 3, "p3316;", 36, 0}, {6, 1, "p3911;", 108, 106}, {7, 1, "p3111;", 12, 10},
        {6, 6, "p3214;", 48, 0}, {6, 7, "p3214;", 72, 16},
        // LOOSE: as it is
        {6, 4, "p4114;", 48, 16}, {6, 12, "p4114;", 48, 0}, {6, 6, "p4114;", 48, 0}, {6, 5, "p4914;", 48, 8},
        // NEAR: a WHOLE's, if off by no more than STEP twelfths, else a PART's
        {6, 4, "p5212;", 16, 8}, {6, 4, "p5412;", 12, 0}, {6, 5, "p5412;", 24, 4}, {6, 5, "p5312;", 20, 4},
        {6, 1, "p5911;", 2, 10}, {8, 1, "p5911;", 1, 10}, {8, 5, "p5312;", 12, 0}, {16, 11, "p5312;", 16, 7},
        {6, 1, "p5912;", 12, 8}, {16, 11, "p5412;", 16, 7}, {16, 11, "p5512;", 12, 0}};
    for (Object[] row : rows) {
      TwoThirdsOfAnEgg egg = Check.told("f" + row[0] + ";" + row[2]);
      egg.guests((Integer) row[1]);
      String what = row[2] + " FOR " + row[0] + " GUESTS " + row[1];
      Check.due("TAKEN of " + what, egg.part(0, 5), (Integer) row[3]);
      Check.due("LEFT of " + what, egg.part(0, 6), (Integer) row[4]);
    }
    TwoThirdsOfAnEgg egg = Check.told("p52371;p0111;h0=8;");
    int[] due = {5, 2, 3, 71, 8};
    for (int what = 0; what < due.length; what++) {
      Check.due("part(0, " + what + ")", egg.part(0, what), due[what]);
    }
    Check.due("part(1, 0)", egg.part(1, 0), 0);
  }

  private static void guests() {
    TwoThirdsOfAnEgg egg = new TwoThirdsOfAnEgg();
    Check.due("guests(1)", egg.guests(1), 4);
    Check.due("guests(24)", egg.guests(24), 1);
    Check.due("guests(0)", egg.guests(0), -4);
    Check.due("guests(25)", egg.guests(25), -6);
    Check.due("GUESTS", egg.count(2), 24);
    Check.due("BACK", egg.count(17), 2);
  }

  private static void house() {
    TwoThirdsOfAnEgg egg = Check.told("p0111;p0111;h1=7;");
    Check.due("house(1, 99)", egg.house(1, 99), 7);
    Check.due("house(1, 0)", egg.house(1, 0), 99);
    Check.due("house(0, 5)", egg.house(0, 5), 0);
    Check.due("house(1, 6)", egg.house(1, 6), 0);
    Check.due("all HOUSE", egg.count(5), 11);
    Check.due("HOUSE of 0", egg.part(0, 4), 5);
  }

  private static void settings() {
    TwoThirdsOfAnEgg egg = new TwoThirdsOfAnEgg();
    Check.due("set(0, 999)", egg.set(0, 999), 120);
    Check.due("set(0, 1)", egg.set(0, 1), 999);
    Check.due("set(1, 99)", egg.set(1, 99), 30);
    Check.due("set(1, 1)", egg.set(1, 1), 99);
    Check.due("VOLUME", egg.count(8), 1);
    Check.due("TIME", egg.count(9), 1);
  }

  private static void shares() {
    TwoThirdsOfAnEgg egg = Check.told("f7;p0135;p0112;");
    int[][] rows = {{0, 3, 15, 7}, {0, 7, 5, 1}, {0, 14, 10, 1}, {0, 24, 120, 7}, {1, 1, 2, 7}, {1, 21, 6, 1}};
    for (int[] row : rows) {
      Check.due("share(" + row[0] + ", " + row[1] + ", 0)", egg.share(row[0], row[1], 0), row[2]);
      Check.due("share(" + row[0] + ", " + row[1] + ", 1)", egg.share(row[0], row[1], 1), row[3]);
    }
    TwoThirdsOfAnEgg two = Check.told("f6;p1112;p4112;");
    Check.due("two thirds of an egg, above", two.share(0, 2, 0), 2);
    Check.due("two thirds of an egg, below", two.share(0, 2, 1), 3);
    Check.due("SHARE of LOOSE, above", two.share(1, 3, 0), 1);
    Check.due("SHARE of LOOSE, below", two.share(1, 3, 1), 1);
  }

  private static void off() {
    TwoThirdsOfAnEgg egg = Check.told("f7;p0135;p1102;p1122;");
    egg.guests(3);
    // 26 twelfths for 180/7, 12 for 72/7, 12 for 72/7
    int[][] rows = {{0, 6, 7}, {1, 0, 1}, {2, 24, 7}, {-1, 30, 7}};
    for (int[] row : rows) {
      Check.due("off(" + row[0] + ", 0)", egg.off(row[0], 0), row[1]);
      Check.due("off(" + row[0] + ", 1)", egg.off(row[0], 1), row[2]);
    }
    egg.guests(7);
    Check.due("nothing off, above", egg.off(-1, 0), 0);
    Check.due("nothing off, below", egg.off(-1, 1), 1);
    TwoThirdsOfAnEgg loose = Check.told("f6;p4194;");
    Check.due("LOOSE off", loose.off(0, 0), 9 * 16);
    loose.guests(12);
    Check.due("LOOSE off for more", loose.off(0, 0), 9 * 48);
  }
}
