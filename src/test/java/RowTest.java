/** Promises 27 to 30, 39 and 48: the ROW, what is read from it, OVEN, FAIR. */
public final class RowTest {
  private RowTest() {
  }

  public static void main(String[] args) {
    row();
    read();
    judge();
    oven();
    fair();
    Check.end("RowTest");
  }

  private static void row() {
    TwoThirdsOfAnEgg egg = new TwoThirdsOfAnEgg();
    Check.due("clear of none", egg.clear(), 0);
    for (int i = 1; i <= 8; i++) {
      Check.due("row " + i, egg.row(i == 1 ? 0 : 99), i);
    }
    Check.due("row 9", egg.row(1), -6);
    Check.due("in the ROW", egg.count(7), 8);
    Check.due("clear", egg.clear(), 8);
    Check.due("in the ROW then", egg.count(7), 0);
    Check.due("clear again", egg.clear(), 0);
  }

  private static void readDue(TwoThirdsOfAnEgg egg, int numbers, int halved, int amounts) {
    Check.due("read(0)", egg.read(0), numbers);
    Check.due("read(1)", egg.read(1), halved);
    Check.due("read(2)", egg.read(2), amounts);
  }

  /** For 4 two of the one are TAKEN, two and eight twelfths of the other. */
  private static void read() {
    TwoThirdsOfAnEgg egg = Check.told("f6;p1113;p0114;");
    Check.row(egg, 2, 2);
    readDue(egg, 8, 3, 0);
    Check.due("the ROW stays", egg.count(7), 2);
    Check.row(egg, 3, 4);
    readDue(egg, 1 << 5 | 1 << 6, 0, 3);
    Check.row(egg, 2, 4);
    readDue(egg, 0, 1, 2);
    Check.row(egg, 2, 3);
    readDue(egg, 1 << 4, 1, 0);
    Check.row(egg, 12, 16);
    readDue(egg, 1 << 23, 0, 0);
    Check.row(egg, 1, 0);
    readDue(egg, 1, 0, 0);
    TwoThirdsOfAnEgg loose = Check.told("f6;p4115;");
    Check.row(loose, 5);
    readDue(loose, 0xffffff, 1, 1);
    readDue(new TwoThirdsOfAnEgg(), 0xffffff, 0, 0);
    Check.row(egg, 2);
    Check.due("too few", egg.read(0), -3);
    Check.row(egg, 2, 2, 2);
    Check.due("too many", egg.read(0), -3);
  }

  private static void judge() {
    TwoThirdsOfAnEgg egg = Check.told("f6;p1113;p0114;");
    int[][] rows = {{2, 2, -9}, {3, 4, -9}, {2, 4, -9}, {3, 2, -9}, {2, 5, 1}, {1, 2, 0}, {0, 0, 0}};
    for (int[] row : rows) {
      Check.row(egg, row[0], row[1]);
      Check.due("judge of " + row[0] + ", " + row[1], egg.judge(), row[2]);
      Check.due("the ROW has none then", egg.count(7), 0);
    }
    Check.due("judge of an empty ROW", egg.judge(), -3);
    Check.row(egg, 2);
    Check.due("judge of too few", egg.judge(), -3);
    Check.due("the ROW stays", egg.count(7), 1);
    Check.row(egg, 2, 2, 2);
    Check.due("judge of too many", egg.judge(), -3);
    Check.due("the ROW stays as well", egg.count(7), 3);
  }

  private static void ovenDue(TwoThirdsOfAnEgg egg, int s, int when, int soonest, int shelves) {
    Check.due("oven(" + s + ", 0)", egg.oven(s, 0), when);
    Check.due("oven(" + s + ", 1)", egg.oven(s, 1), soonest);
    Check.due("oven(" + s + ", 2)", egg.oven(s, 2), shelves);
  }

  private static void oven() {
    TwoThirdsOfAnEgg egg = new TwoThirdsOfAnEgg();
    ovenDue(egg, 3, 0, 0, 0);
    Check.row(egg, 10, 20, 30, 40);
    ovenDue(egg, 1, 100, 100, 0);
    ovenDue(egg, 2, 60, 50, 4 + 16);
    ovenDue(egg, 3, 50, 40, 1 + 2 * 4 + 16);
    Check.row(egg, 5, 5, 5);
    ovenDue(egg, 2, 10, 10, 1);
    ovenDue(egg, 3, 5, 5, 2 + 4);
    Check.row(egg, 0, 0, 7);
    ovenDue(egg, 2, 7, 7, 0);
    Check.row(egg, 99, 99, 99, 99, 99, 99, 99, 99);
    ovenDue(egg, 1, 792, 792, 0);
    ovenDue(egg, 2, 396, 396, 1 + 4 + 16 + 64);
    ovenDue(egg, 3, 297, 297, 2 + 2 * 4 + 16 + 64 + 256);
    Check.row(egg, 1, 1, 1, 1, 1, 1, 1, 99);
    ovenDue(egg, 2, 102, 99, 1 + 4 + 16 + 64 + 256 + 1024 + 4096);
    Check.due("the ROW stays", egg.count(7), 8);
  }

  private static void fairDue(int group, int apart, int... minutes) {
    TwoThirdsOfAnEgg egg = new TwoThirdsOfAnEgg();
    Check.row(egg, minutes);
    Check.due("fair(0) of " + minutes.length, egg.fair(0), group);
    Check.due("fair(1) of " + minutes.length, egg.fair(1), apart);
    Check.due("the ROW stays", egg.count(7), minutes.length);
  }

  private static void fair() {
    fairDue(9, 0, 10, 20, 30, 40);
    fairDue(1, 7, 7);
    fairDue(1, 0, 5, 5);
    fairDue(1, 1, 1, 1, 1);
    fairDue(1, 0, 3, 1, 2);
    fairDue(5, 0, 1, 3, 2);
    fairDue(3, 1, 1, 2, 4);
    fairDue(127, 92, 1, 1, 1, 1, 1, 1, 1, 99);
    fairDue(15, 0, 9, 9, 9, 9, 9, 9, 9, 9);
    fairDue(1, 92, 99, 1, 1, 1, 1, 1, 1, 1);
  }
}
