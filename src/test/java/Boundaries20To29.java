/** The boundary cases of promises 20 to 29: CUPS, mistakes, LOTS, what is LEFT, the ROW. */
final class Boundaries20To29 extends Boundary {
  private Boundaries20To29() {
  }

  // Promise 20

  static void promise20_cups0And12Come() {
    TwoThirdsOfAnEgg egg = fresh();
    for (int cup = 0; cup < 3; cup++) {
      due("cup(" + cup + ", 12)", egg.cup(cup, 12), 0);
      due("CUP " + cup, egg.count(20 + cup), 12);
      due("cup(" + cup + ", 0)", egg.cup(cup, 0), 12);
      due("CUP " + cup + " then", egg.count(20 + cup), 0);
    }
  }

  static void promise20_noSuchCup() {
    nobody(3, (egg, cup) -> egg.cup(cup, 5));
  }

  static void promise20_below0IsRefused() {
    refused(-4, egg -> egg.cup(0, -1));
    refused(-4, egg -> egg.cup(2, LEAST));
  }

  static void promise20_above12IsRefused() {
    refused(-6, egg -> egg.cup(0, 13));
    refused(-6, egg -> egg.cup(2, GREATEST));
  }

  static void promise20_nobodyComesFirst() {
    nobody(3, (egg, cup) -> egg.cup(cup, -1));
    nobody(3, (egg, cup) -> egg.cup(cup, 13));
  }

  // Promise 21

  static void promise21_1And12Ounces() {
    due("pours(1)", told("c010000;").pours(1), 1);
    due("pours(12)", told("c000012;").pours(12), 1);
    due("pours(12) of three", told("c120807;").pours(12), 1);
    due("pours(1) of 5 and 3", told("c050300;").pours(1), 4);
  }

  static void promise21_noWayToIt() {
    due("without CUPS", fresh().pours(1), -9);
    due("odd of even ones", told("c080406;").pours(3), -9);
    due("more than any holds", told("c050300;").pours(6), -9);
    due("12 of 11 and 11", told("c111111;").pours(12), -9);
    due("less than all of one", told("c121212;").pours(11), -9);
  }

  static void promise21_tillItIsFullOrTheOtherEmpty() {
    due("till that is full", told("c050300;").pours(2), 2);
    due("till it is empty", told("c070300;").pours(6), 4);
  }

  static void promise21_cupsAsTheyAreThen() {
    TwoThirdsOfAnEgg egg = told("c050300;");
    due("pours(4) of 5 and 3", egg.pours(4), 6);
    egg.cup(0, 7);
    due("pours(4) of 7 and 3", egg.pours(4), 2);
    egg.cup(1, 0);
    due("pours(4) of 7", egg.pours(4), -9);
    due("pours(7) of 7", egg.pours(7), 1);
    due("steps(7, 3, 0) of 7", egg.steps(7, 3, 0), -9);
  }

  static void promise21_below1IsRefused() {
    refused(-4, egg -> egg.pours(0));
    refused(-4, egg -> egg.pours(LEAST));
  }

  static void promise21_above12IsRefused() {
    refused(-6, egg -> egg.pours(13));
    refused(-6, egg -> egg.pours(GREATEST));
  }

  // Promise 22

  static void promise22_fromAllEmpty() {
    due("no CUPS", fresh().steps(0, 0, 0), 0);
    due("three", told("c080503;").steps(0, 0, 0), 0);
  }

  static void promise22_allFull() {
    due("12 each", told("c121212;").steps(12, 12, 12), 3);
    due("one alone", told("c121212;").steps(0, 0, 12), 1);
  }

  static void promise22_noWayToIt() {
    due("more than the CUP holds", told("c080503;").steps(9, 0, 0), -9);
    due("in a CUP of 0", fresh().steps(0, 0, 1), -9);
    due("none is empty or full", told("c050300;").steps(1, 1, 0), -9);
    due("12 each of 8, 5 and 3", told("c080503;").steps(12, 12, 12), -9);
  }

  static void promise22_eachBelow0IsRefused() {
    refused(-4, egg -> egg.steps(-1, 0, 0));
    refused(-4, egg -> egg.steps(0, -1, 0));
    refused(-4, egg -> egg.steps(0, 0, -1));
    refused(-4, egg -> egg.steps(LEAST, LEAST, LEAST));
  }

  static void promise22_eachAbove12IsRefused() {
    refused(-6, egg -> egg.steps(13, 0, 0));
    refused(-6, egg -> egg.steps(0, 13, 0));
    refused(-6, egg -> egg.steps(0, 0, 13));
    refused(-6, egg -> egg.steps(GREATEST, GREATEST, GREATEST));
  }

  static void promise22_belowComesFirst() {
    refused(-4, egg -> egg.steps(13, 13, -1));
    refused(-4, egg -> egg.steps(-1, 13, 13));
    refused(-4, egg -> egg.steps(GREATEST, LEAST, 0));
  }

  // Promise 23

  static void promise23_of0AndOf999() {
    TwoThirdsOfAnEgg egg = told("f6;p0116;");
    due("mistake(0, 0)", egg.mistake(0, 0), 1);
    due("mistake(0, 1)", egg.mistake(0, 1), 1);
    due("mistake(0, 2)", egg.mistake(0, 2), 2);
    due("mistake(0, 999)", egg.mistake(0, 999), 999);
  }

  static void promise23_vOrMore() {
    TwoThirdsOfAnEgg egg = told("f6;p0114;");
    due("just so many", egg.mistake(0, 2), 3);
    due("a little more", egg.mistake(0, 3), 5);
    due("much more", told("f1;p01199;").mistake(0, 100), 2);
  }

  static void promise23_above999ThereIsNone() {
    due("666 wholes", told("f6;p0114;").mistake(0, 666), 999);
    due("667 wholes", told("f6;p0114;").mistake(0, 667), -9);
    due("499 wholes", told("f2;p0111;").mistake(0, 499), 998);
    due("500 wholes", told("f2;p0111;").mistake(0, 500), -9);
    due("the furthest", told("f24;p0111;").mistake(0, 999), -9);
  }

  static void promise23_noSuchPart() {
    nobody(2, (egg, part) -> egg.mistake(part, 5));
  }

  static void promise23_below0IsRefused() {
    refused(-4, egg -> egg.mistake(0, -1));
    refused(-4, egg -> egg.mistake(1, LEAST));
  }

  static void promise23_above999IsRefused() {
    refused(-6, egg -> egg.mistake(0, 1000));
    refused(-6, egg -> egg.mistake(1, GREATEST));
  }

  static void promise23_nobodyComesFirst() {
    nobody(2, (egg, part) -> egg.mistake(part, -1));
    nobody(2, (egg, part) -> egg.mistake(part, 1000));
  }

  // Promise 24

  static void promise24_mistakeIsNone() {
    TwoThirdsOfAnEgg egg = told("f6;p0114;p1113;");
    due("666 wholes", egg.more(0, 666, 1), 498);
    due("667 wholes", egg.more(0, 667, 1), -9);
    due("999 wholes", egg.more(0, 999, 1), -9);
  }

  static void promise24_0AtLeast() {
    TwoThirdsOfAnEgg egg = told("f6;p0114;p1113;");
    due("0 wholes", egg.more(0, 0, 1), 0);
    due("less than is TAKEN", egg.more(0, 1, 1), 0);
  }

  static void promise24_roundedUp() {
    TwoThirdsOfAnEgg egg = toldFor(1, "f12;p01112;p0111;");
    due("by 0 twelfths", egg.more(0, 1, 1), 0);
    due("by a twelfth", egg.more(0, 2, 1), 1);
    due("by 12 twelfths", egg.more(0, 13, 1), 1);
    due("by 13 twelfths", egg.more(0, 14, 1), 2);
  }

  static void promise24_ofOnePartTwice() {
    due("more(0, 3, 0)", told("f6;p0114;").more(0, 3, 0), 1);
  }

  static void promise24_noSuchPart() {
    nobody(2, (egg, part) -> egg.more(part, 5, 0));
    nobody(2, (egg, other) -> egg.more(0, 5, other));
    nobody(2, (egg, both) -> egg.more(both, 5, both));
  }

  static void promise24_below0IsRefused() {
    refused(-4, egg -> egg.more(0, -1, 1));
    refused(-4, egg -> egg.more(1, LEAST, 0));
  }

  static void promise24_above999IsRefused() {
    refused(-6, egg -> egg.more(0, 1000, 1));
    refused(-6, egg -> egg.more(1, GREATEST, 0));
  }

  static void promise24_nobodyComesFirst() {
    nobody(2, (egg, part) -> egg.more(part, -1, 0));
    nobody(2, (egg, other) -> egg.more(0, -1, other));
    nobody(2, (egg, other) -> egg.more(0, 1000, other));
  }

  // Promise 25

  private static void lotsDue(int guests, int x, int y, int lots) {
    TwoThirdsOfAnEgg egg = fresh();
    egg.guests(guests);
    due("lots(" + x + ", " + y + ") for " + guests, egg.lots(x, y), lots);
  }

  static void promise25_sizes1And24() {
    lotsDue(24, 1, 24, 1);
    lotsDue(24, 24, 1, 100);
    lotsDue(23, 1, 24, 2300);
    lotsDue(23, 24, 1, 23);
    lotsDue(24, 1, 1, 24);
    lotsDue(1, 24, 24, 1);
  }

  static void promise25_theLeastAboveThem() {
    lotsDue(7, 3, 4, 101);
    lotsDue(1, 23, 24, 100);
    lotsDue(1, 24, 23, 1);
    lotsDue(5, 4, 3, 2);
    lotsDue(11, 6, 4, 200);
  }

  static void promise25_ofSeveralTheFewestLots() {
    lotsDue(6, 1, 6, 1);
    lotsDue(6, 6, 1, 100);
    lotsDue(12, 3, 4, 3);
    lotsDue(12, 4, 3, 300);
  }

  static void promise25_thenTheFewestOfX() {
    lotsDue(4, 4, 4, 1);
    lotsDue(4, 3, 3, 2);
  }

  static void promise25_eitherBelow1IsRefused() {
    refused(-4, egg -> egg.lots(0, 5));
    refused(-4, egg -> egg.lots(5, 0));
    refused(-4, egg -> egg.lots(LEAST, LEAST));
  }

  static void promise25_above24IsRefused() {
    refused(-6, egg -> egg.lots(25, 5));
    refused(-6, egg -> egg.lots(5, 25));
    refused(-6, egg -> egg.lots(GREATEST, GREATEST));
  }

  static void promise25_belowComesFirst() {
    refused(-4, egg -> egg.lots(25, 0));
    refused(-4, egg -> egg.lots(0, 25));
    refused(-4, egg -> egg.lots(GREATEST, LEAST));
  }

  // Promise 26

  static void promise26_24IfThereAreNoParts() {
    due("used()", fresh().used(), 24);
  }

  static void promise26_24AtMost() {
    due("23 twelfths, one each", toldFor(1, "f24;p3212;").used(), 23);
    due("35 twelfths, one each", toldFor(1, "f24;p3312;").used(), 24);
    due("102 twelfths, two each", toldFor(3, "f6;p3911;").used(), 24);
  }

  static void promise26_noneIs0() {
    due("nothing is LEFT", toldFor(6, "f6;p3113;").used(), 0);
    due("of one PART nothing is LEFT", toldFor(6, "f6;p3911;p3113;").used(), 0);
  }

  static void promise26_noMoreThanLeft() {
    due("6 twelfths, 6 each", toldFor(1, "f6;p1113;").used(), 1);
    due("10 twelfths, 12 by 7 each", toldFor(1, "f7;p3111;").used(), 5);
    due("28 and 16 twelfths, 2 each", toldFor(4, "f6;p3311;p3211;").used(), 8);
  }

  // Promise 27

  private static TwoThirdsOfAnEgg fullRow() {
    return withRow(1, 2, 3, 4, 5, 6, 7, 8);
  }

  static void promise27_0And99Come() {
    TwoThirdsOfAnEgg egg = fresh();
    due("row(0)", egg.row(0), 1);
    due("row(99)", egg.row(99), 2);
    due("the MINUTES of both", egg.oven(1, 0), 99);
  }

  static void promise27_below0IsRefused() {
    refused(-4, egg -> egg.row(-1));
    refused(-4, egg -> egg.row(LEAST));
  }

  static void promise27_above99IsRefused() {
    refused(-6, egg -> egg.row(100));
    refused(-6, egg -> egg.row(GREATEST));
  }

  static void promise27_theEighthComes() {
    TwoThirdsOfAnEgg egg = fresh();
    for (int i = 1; i <= 8; i++) {
      due("row " + i, egg.row(i), i);
    }
    due("in the ROW", egg.count(7), 8);
    due("the MINUTES of all", egg.oven(1, 0), 36);
  }

  static void promise27_theNinthIsRefused() {
    refused(-6, Boundaries20To29::fullRow, egg -> egg.row(1));
    refused(-6, Boundaries20To29::fullRow, egg -> egg.row(100));
  }

  static void promise27_belowComesAheadOfNoRoom() {
    refused(-4, Boundaries20To29::fullRow, egg -> egg.row(-1));
  }

  // Promise 28

  private static TwoThirdsOfAnEgg toldRow(String book, int... numbers) {
    TwoThirdsOfAnEgg egg = told(book);
    Check.row(egg, numbers);
    return egg;
  }

  private static void readDue(TwoThirdsOfAnEgg egg, int numbers, int halved, int amounts) {
    due("read(0)", egg.read(0), numbers);
    due("read(1)", egg.read(1), halved);
    due("read(2)", egg.read(2), amounts);
  }

  static void promise28_noPartsAndAnEmptyRow() {
    readDue(fresh(), 0xffffff, 0, 0);
  }

  static void promise28_eightParts() {
    readDue(toldRow(EIGHT_PARTS, 1, 1, 1, 1, 1, 1, 1, 0), 0, 128, 127);
    readDue(toldRow(EIGHT_PARTS, 0, 0, 0, 0, 0, 0, 0, 1), 0, 127, 128);
    readDue(toldRow(EIGHT_PARTS, 0, 0, 0, 0, 0, 0, 0, 0), 31, 255, 0);
    readDue(toldRow(EIGHT_PARTS, 4, 4, 4, 4, 4, 4, 4, 4), 1 << 23, 0, 0);
  }

  static void promise28_roundedDownToWholes() {
    readDue(toldRow("f6;p0114;", 2), 1 << 2 | 1 << 3, 1, 0);
    readDue(toldRow("f6;p0114;", 3), 1 << 4, 0, 0);
    readDue(toldRow("f6;p0114;", 0), 1, 0, 0);
    readDue(toldRow("f6;p0114;", 16), 1 << 23, 0, 0);
    readDue(toldRow("f6;p0114;", 99), 0, 0, 0);
  }

  static void promise28_bothHalvedAndAmount() {
    readDue(toldRow("f6;p4115;", 5), 0xffffff, 1, 1);
  }

  static void promise28_theRowStays() {
    TwoThirdsOfAnEgg egg = toldRow("f6;p4115;", 5);
    readDue(egg, 0xffffff, 1, 1);
    due("in the ROW", egg.count(7), 1);
    readDue(egg, 0xffffff, 1, 1);
  }

  static void promise28_anotherWhat() {
    noChoice(2, TwoThirdsOfAnEgg::read);
  }

  static void promise28_notAsManyAsParts() {
    for (int what = 0; what <= 2; what++) {
      int of = what;
      refused(-3, () -> toldRow("f6;p0111;p0111;", 1), egg -> egg.read(of));
      refused(-3, () -> toldRow("f6;p0111;p0111;"), egg -> egg.read(of));
      refused(-3, () -> toldRow("f6;p0111;p0111;", 1, 1, 1), egg -> egg.read(of));
      refused(-3, () -> withRow(1), egg -> egg.read(of));
    }
  }

  static void promise28_otherComesFirst() {
    refused(-2, () -> toldRow("f6;p0111;", 1, 2), egg -> egg.read(3));
    refused(-2, () -> toldRow("f6;p0111;"), egg -> egg.read(-1));
  }

  // Promise 29

  private static void judgeDue(int judged, String book, int... numbers) {
    TwoThirdsOfAnEgg egg = toldRow(book, numbers);
    due("judge() of " + book, egg.judge(), judged);
    due("in the ROW then", egg.count(7), 0);
  }

  static void promise29_noneIsNeither() {
    judgeDue(-9, "f6;p1113;p0114;", 2, 4);
    judgeDue(-9, "f6;p1113;p0114;", 3, 2);
    judgeDue(-9, "f6;");
  }

  static void promise29_theFirstThatIsNeither() {
    judgeDue(0, "f6;p1113;p0114;", 1, 3);
    judgeDue(1, "f6;p1113;p0114;", 2, 3);
    judgeDue(7, EIGHT_PARTS, 1, 1, 1, 1, 0, 0, 0, 2);
  }

  static void promise29_notAsManyAsPartsAndItStays() {
    refused(-3, () -> toldRow("f6;p0111;p0111;", 1), TwoThirdsOfAnEgg::judge);
    refused(-3, () -> toldRow("f6;p0111;p0111;"), TwoThirdsOfAnEgg::judge);
    refused(-3, () -> toldRow("f6;p0111;p0111;", 1, 1, 1), TwoThirdsOfAnEgg::judge);
    refused(-3, () -> withRow(1), TwoThirdsOfAnEgg::judge);
  }

  static void promise29_theRowIsEmptyThen() {
    TwoThirdsOfAnEgg egg = toldRow("f6;p0111;", 1);
    due("judge()", egg.judge(), -9);
    due("judge() again", egg.judge(), -3);
    due("row(5)", egg.row(5), 1);
    due("its MINUTES", egg.oven(1, 0), 5);
  }
}
