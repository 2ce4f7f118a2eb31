/** Promises 1 to 3: a new object, letters, BOOKS and their FAULTS. */
public final class BookTest {
  private static final String EIGHT_PARTS = "p0111;p0111;p0111;p0111;p0111;p0111;p0111;p0111;";

  private BookTest() {
  }

  public static void main(String[] args) {
    newObject();
    letters();
    booksThatCome();
    wrongLetters();
    wrongStatements();
    faultsLeaveNothing();
    room();
    Check.end("BookTest");
  }

  private static void newObject() {
    TwoThirdsOfAnEgg egg = new TwoThirdsOfAnEgg();
    int[] counts = {0, 6, 4, 0, 0, 0, 0, 0, 120, 30, 0, 0, 0, 0, 0, 0, 0, 0, 0, -9, 0, 0, 0, -9};
    for (int what = 0; what < counts.length; what++) {
      Check.due("new: count(" + what + ")", egg.count(what), counts[what]);
    }
  }

  private static void letters() {
    TwoThirdsOfAnEgg egg = new TwoThirdsOfAnEgg();
    Check.due("feed(-1)", egg.feed(-1), -4);
    Check.due("feed(256)", egg.feed(256), -6);
    Check.due("feed(least int)", egg.feed(Integer.MIN_VALUE), -4);
    Check.due("feed(greatest int)", egg.feed(Integer.MAX_VALUE), -6);
    Check.due("feed(0)", egg.feed(0), 1);
    Check.due("feed(255)", egg.feed(255), 2);
    for (int i = 3; i <= 96; i++) {
      Check.due("feed " + i, egg.feed('f'), i);
    }
    Check.due("feed 97", egg.feed('f'), -6);
    Check.due("feed(-1), full", egg.feed(-1), -4);
    Check.due("letters", egg.count(6), 96);
    Check.due("refusals", Check.refusals(egg), "0 0 0 3 3");
    Check.due("book of 96", egg.book(), -1000);
    Check.due("letters behind a book", egg.count(6), 0);
    Check.due("feed again", egg.feed('f'), 1);
  }

  private static void booksThatCome() {
    TwoThirdsOfAnEgg egg = Check.told("f8;p12345;p21906;h1=7;h0=09;to9;tq30;s01987;s10129;c001205;");
    Check.due("FOR", egg.count(1), 8);
    Check.due("PARTS", egg.count(0), 2);
    Check.due("KIND", egg.part(0, 0), 1);
    Check.due("STEP", egg.part(0, 1), 2);
    Check.due("COST", egg.part(0, 2), 3);
    Check.due("AMOUNT", egg.part(0, 3), 45);
    Check.due("HOUSE", egg.part(0, 4), 9);
    Check.due("AMOUNT told as 06", egg.part(1, 3), 6);
    Check.due("HOUSE of 1", egg.part(1, 4), 7);
    Check.due("TINS", egg.count(3), 2);
    Check.due("TIN 0 ROUND", egg.tin(0, 0), 0);
    Check.due("TIN 0 SIZE", egg.tin(0, 1), 9);
    Check.due("TIN 1 SQUARE", egg.tin(1, 0), 1);
    Check.due("TIN 1 SIZE", egg.tin(1, 1), 30);
    Check.due("STAND-INS", egg.count(4), 2);
    Check.due("CUP 0", egg.count(20), 0);
    Check.due("CUP 1", egg.count(21), 12);
    Check.due("CUP 2", egg.count(22), 5);
    Check.due("a second BOOK adds", Check.tell(egg, "p0199;tq1;f09;"), 3);
    Check.due("PARTS then", egg.count(0), 3);
    Check.due("TINS then", egg.count(3), 3);
    Check.due("FOR then", egg.count(1), 9);
    Check.due("GUESTS stay", egg.count(2), 4);
    Check.due("edges", Check.tell(egg, "f1;f24;p5991;p01099;h0=0;h0=99;to1;tq30;c121212;"), 9);
    Check.due("letters of a whole BOOK", egg.count(6), 0);
  }

  private static void wrongLetters() {
    String[] books = {
        "", ";", "x", "F6;", " f6;", "f", "f;", "fx;", "f6", "f12", "f123;", "f6;f", "f6;;", "f6; ", "f-1;",
        "p", "p0", "p01", "p011", "p0111", "p01111", "px111;", "p0x11;", "p01x1;", "p011;", "p011111;",
        "h", "h=1;", "h0", "h01=2;", "h0=", "h0=;", "h0=1", "h0=123;",
        "t", "t5;", "tx5;", "to", "to;", "tq1", "to123;",
        "s", "s0111;", "s01111", "s011111;", "s0 111;", "c", "c1;", "c01023;", "c010203", "c0102034;",
        "f0;f", "f25;x", "h9=1;p", "f6;\u0000", "f6;f7\u00ff;", ":", "f/;", "f:;"};
    int[] places = {
        0, 0, 0, 0, 0, 1, 1, 1, 2, 3, 3, 4, 3, 3, 1,
        1, 2, 3, 4, 5, 6, 1, 2, 3, 4, 6,
        1, 1, 2, 2, 3, 3, 4, 5,
        1, 1, 1, 2, 2, 3, 4,
        1, 5, 6, 6, 2, 1, 2, 6, 7, 7,
        4, 4, 6, 3, 5, 0, 1, 1};
    for (int i = 0; i < books.length; i++) {
      TwoThirdsOfAnEgg egg = new TwoThirdsOfAnEgg();
      Check.due("book " + books[i], Check.tell(egg, books[i]), -1000 - places[i]);
      Check.due("letters behind " + books[i], egg.count(6), 0);
      Check.due("refusals behind " + books[i], Check.refusals(egg), "0 0 0 0 0");
    }
  }

  private static void wrongStatements() {
    String[] books = {
        "f0;", "f00;", "f25;", "f99;", "f6;f25;", "p6111;", "p9111;", "p0011;", "p0110;", "p01100;",
        "h0=1;", "p0111;h1=1;", "h0=1;p0111;", "to0;", "tq00;", "to31;", "tq99;", "s01111;",
        "p0111;s01111;", "p0111;s10111;", "p0111;s00111;", "p0111;p0111;s01011;", "p0111;p0111;s01101;",
        "p0111;p0111;s01110;s01222;", "p0111;p0111;s01110;s10110;s11111;",
        "c130000;", "c001300;", "c000013;", "c999999;", "to1;to1;to1;to1;to1;to1;f0;",
        EIGHT_PARTS + "p0111;", EIGHT_PARTS + "s01111;s02111;s03111;s04111;s05111;s06111;"};
    int[] places = {
        0, 0, 0, 0, 3, 0, 0, 0, 0, 0,
        0, 6, 0, 0, 0, 0, 0, 0,
        6, 6, 6, 12, 12,
        19, 26,
        0, 0, 0, 0, 20,
        48, Integer.MIN_VALUE};
    for (int i = 0; i < books.length; i++) {
      TwoThirdsOfAnEgg egg = new TwoThirdsOfAnEgg();
      int due = places[i] == Integer.MIN_VALUE ? 14 : -2000 - places[i];
      Check.due("book " + books[i], Check.tell(egg, books[i]), due);
      Check.due("letters behind " + books[i], egg.count(6), 0);
      Check.due("refusals behind " + books[i], Check.refusals(egg), "0 0 0 0 0");
    }
  }

  private static void faultsLeaveNothing() {
    TwoThirdsOfAnEgg egg = Check.told("f8;p0111;p0112;h0=3;to9;s01111;c010203;");
    String before = Check.all(egg);
    String[] books = {
        "f9;p0111;h0=9;h1=9;to5;s10111;c121212;f0;", "f9;p0111;h0=9;to5;s10111;c121212;f",
        "c121213;", "h0=9;h2=1;", "p0111;s20111;s20111;"};
    int[] faults = {-2038, -1034, -2000, -2005, -2013};
    for (int i = 0; i < books.length; i++) {
      Check.due("book " + books[i], Check.tell(egg, books[i]), faults[i]);
      Check.due("all behind " + books[i], Check.all(egg), before);
    }
    Check.due("a good one behind them", Check.tell(egg, "p0113;"), 1);
    Check.due("its HOUSE", egg.part(2, 4), 0);
    Check.due("its PRICE", egg.price(2, 0), 0);
    Check.due("its ALSO", egg.also(2, 0), 0);
  }

  private static void room() {
    TwoThirdsOfAnEgg egg = Check.told(EIGHT_PARTS, "to1;to2;to3;to4;to5;", "s01111;s02111;s03111;s04111;s05111;");
    Check.due("a ninth PART", Check.tell(egg, "p0111;"), -2000);
    Check.due("a sixth TIN", Check.tell(egg, "f7;to1;"), -2003);
    Check.due("a sixth STAND-IN", Check.tell(egg, "s06111;"), 1);
    Check.due("a seventh STAND-IN", Check.tell(egg, "s07111;"), -2000);
    Check.due("PARTS", egg.count(0), 8);
    Check.due("TINS", egg.count(3), 5);
    Check.due("STAND-INS", egg.count(4), 6);
    Check.due("FOR", egg.count(1), 6);
    Check.due("a STAND-IN told of PARTS that are there", egg.standIn(5, 1), 6);
  }
}
