/** Promises 13 to 15 and 44: tins. */
public final class TinsTest {
  private TinsTest() {
  }

  public static void main(String[] args) {
    TwoThirdsOfAnEgg egg = Check.told("to9;tq8;tq6;");
    int[][] due = {{0, 9, 891, 20}, {1, 8, 896, 20}, {1, 6, 504, 35}};
    for (int tin = 0; tin < due.length; tin++) {
      for (int what = 0; what < due[tin].length; what++) {
        Check.due("tin(" + tin + ", " + what + ")", egg.tin(tin, what), due[tin][what]);
      }
    }
    Check.due("deep(0, 0)", egg.deep(0, 0), 1120);
    Check.due("deep(0, 1)", egg.deep(0, 1), 891);
    Check.due("deep(1, 0)", egg.deep(1, 0), 5);
    Check.due("deep(1, 1)", egg.deep(1, 1), 4);
    egg.set(0, 63);
    Check.due("deep(2, 0) of 63", egg.deep(2, 0), 7);
    Check.due("deep(2, 1) of 63", egg.deep(2, 1), 6);
    tinFor(egg);
    pair(egg);
    times();
    Check.end("TinsTest");
  }

  private static void tinFor(TwoThirdsOfAnEgg egg) {
    Check.due("no tin", new TwoThirdsOfAnEgg().tinFor(), -9);
    int[][] rows = {{1, 2}, {4, 2}, {5, 0}, {6, 0}, {12, 1}, {24, 1}};
    for (int[] row : rows) {
      egg.guests(row[0]);
      Check.due("tinFor of " + row[0], egg.tinFor(), row[1]);
    }
    egg.guests(4);
    Check.due("of two alike the first", Check.told("to9;to3;to3;").tinFor(), 0);
    TwoThirdsOfAnEgg alike = Check.told("to20;to3;to3;");
    alike.guests(1);
    Check.due("the nearest is not the first", Check.told("f24;to20;to4;to4;").tinFor(), 0);
    Check.due("of two nearest the first", Check.told("f24;to20;to8;to8;").tinFor(), 1);
  }

  private static void pair(TwoThirdsOfAnEgg egg) {
    Check.due("pair of none", new TwoThirdsOfAnEgg().pair(), -9);
    Check.due("pair of one", Check.told("to9;").pair(), -9);
    int[][] rows = {{4, 2}, {12, 1}, {24, 1}, {9, 2}, {10, 12}};
    for (int[] row : rows) {
      egg.guests(row[0]);
      Check.due("pair for " + row[0], egg.pair(), row[1]);
    }
    Check.due("of several pairs the first", Check.told("to9;to9;to9;").pair(), 1);
    Check.due("the last pair", Check.told("f4;to10;to30;to30;to7;to7;").pair(), 34);
  }

  private static void times() {
    TwoThirdsOfAnEgg egg = Check.told("f6;to9;tq30;to1;");
    egg.guests(1);
    Check.due("a third at least", egg.tin(0, 3), 10);
    egg.set(1, 2);
    Check.due("a minute at least", egg.tin(1, 3), 1);
    egg.set(1, 1);
    egg.guests(9);
    Check.due("of one and of two the less", egg.tin(0, 3), 1);
    egg.guests(15);
    Check.due("of two and of three the less", egg.tin(0, 3), 2);
    egg.guests(16);
    Check.due("the nearest above", egg.tin(0, 3), 3);
    Check.due("81 times as small", egg.tin(2, 3), 216);
    egg.set(1, 99);
    Check.due("999 at most", egg.tin(2, 3), 999);
    egg.guests(6);
    Check.due("TIN 0 FOR that many", egg.tin(0, 3), 99);
    egg.set(1, 98);
    Check.due("a third is cut", egg.tin(1, 3), 32);
    egg.set(0, 1);
    Check.due("VOLUME aside", egg.tin(0, 3), 98);
  }
}
