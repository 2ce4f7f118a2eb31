/** The boundary cases of promises 4 to 9: PARTS, GUESTS, HOUSE, VOLUME and TIME, SHARE, OFF. */
final class Boundaries04To09 extends Boundary {
  private Boundaries04To09() {
  }

  // Promise 4

  private static void takenDue(int guests, String book, int twelfths) {
    due("TAKEN of " + book + " for " + guests, toldFor(guests, book).part(0, 5), twelfths);
  }

  private static void leftDue(int guests, String book, int twelfths) {
    due("LEFT of " + book + " for " + guests, toldFor(guests, book).part(0, 6), twelfths);
  }

  static void promise04_noSuchPart() {
    nobody(2, (egg, part) -> egg.part(part, 0));
    refused(-1, Boundary::fresh, egg -> egg.part(0, 3));
    due("PART 7 of eight", told(EIGHT_PARTS).part(7, 3), 1);
    due("PART 8 of eight", told(EIGHT_PARTS).part(8, 3), -1);
  }

  static void promise04_anotherWhat() {
    noChoice(6, (egg, what) -> egg.part(1, what));
    due("what 0", kitchen().part(0, 0), 3);
    due("what 6", kitchen().part(0, 6), 4);
  }

  static void promise04_nobodyComesAheadOfOther() {
    nobody(2, (egg, part) -> egg.part(part, 7));
  }

  static void promise04_ofTwoTwelfthsTheLess() {
    takenDue(1, "f24;p0111;", 0);
    takenDue(3, "f24;p0111;", 1);
    takenDue(1, "f24;p01199;", 49);
    takenDue(1, "f23;p0111;", 1);
  }

  static void promise04_ofTwoWholesTheLess() {
    takenDue(3, "f6;p1113;", 12);
    takenDue(5, "f6;p1113;", 24);
    takenDue(4, "f6;p1114;", 36);
  }

  static void promise04_oneWholeAtLeast() {
    takenDue(1, "f24;p1111;", 12);
    takenDue(3, "f6;p1111;", 12);
  }

  static void promise04_ofTwoSpoonsTheLess() {
    takenDue(3, "f6;p2411;", 4);
    takenDue(5, "f6;p2411;", 8);
    takenDue(4, "f6;p2511;", 10);
  }

  static void promise04_noSpoonAtAll() {
    takenDue(1, "f6;p2411;", 0);
    takenDue(2, "f6;p2911;", 0);
  }

  static void promise04_packetsRoundedUp() {
    takenDue(6, "f6;p3313;", 36);
    takenDue(7, "f6;p3313;", 72);
    takenDue(1, "f24;p3911;", 108);
    takenDue(18, "f6;p3911;", 108);
  }

  static void promise04_looseWhateverTheGuests() {
    takenDue(1, "f24;p4119;", 108);
    takenDue(24, "f1;p4119;", 108);
  }

  static void promise04_nearOffByNoMoreThanStep() {
    takenDue(4, "f6;p5412;", 12);
    takenDue(4, "f6;p5312;", 16);
    takenDue(5, "f6;p5412;", 24);
    takenDue(5, "f6;p5312;", 20);
    // Off by 3 and 3 quarters, where the PART's is 16 for 15 and 3 quarters
    takenDue(21, "f16;p5411;", 12);
    takenDue(21, "f16;p5311;", 16);
  }

  static void promise04_nearOneWholeAtLeast() {
    takenDue(1, "f24;p5916;", 12);
    takenDue(1, "f6;p5911;", 2);
  }

  static void promise04_nearOfTwoWholesTheLess() {
    takenDue(3, "f6;p5613;", 12);
    takenDue(3, "f6;p5513;", 18);
  }

  static void promise04_nearOfTwoTwelfthsTheLess() {
    takenDue(3, "f8;p5111;", 4);
    takenDue(5, "f8;p5111;", 7);
  }

  static void promise04_leftOfTakenRoundedUpToWholes() {
    leftDue(1, "f6;p0114;", 4);
    leftDue(3, "f6;p0114;", 0);
    leftDue(3, "f6;p2411;", 6);
    leftDue(1, "f12;p01113;", 11);
    leftDue(13, "f12;p01112;", 0);
  }

  static void promise04_leftOfPackets() {
    leftDue(6, "f6;p3313;", 0);
    leftDue(7, "f6;p3313;", 30);
    leftDue(1, "f6;p3911;", 106);
  }

  static void promise04_leftLessShareRoundedUpToATwelfth() {
    leftDue(1, "f7;p0113;", 6);
    leftDue(1, "f7;p3111;", 10);
    leftDue(1, "f24;p1111;", 11);
  }

  static void promise04_leftIs0AtLeast() {
    leftDue(3, "f6;p1113;", 0);
    leftDue(24, "f1;p41199;", 0);
    leftDue(12, "f6;p4111;", 0);
    // TAKEN is 0, SHARE half a twelfth
    leftDue(1, "f24;p0111;", 0);
  }

  // Promise 5

  static void promise05_guests1And24Come() {
    TwoThirdsOfAnEgg egg = fresh();
    due("guests(1)", egg.guests(1), 4);
    due("guests(24)", egg.guests(24), 1);
    due("GUESTS", egg.count(2), 24);
  }

  static void promise05_below1IsRefused() {
    refused(-4, egg -> egg.guests(0));
    refused(-4, egg -> egg.guests(LEAST));
  }

  static void promise05_above24IsRefused() {
    refused(-6, egg -> egg.guests(25));
    refused(-6, egg -> egg.guests(GREATEST));
  }

  // Promise 6

  static void promise06_house0And99Come() {
    TwoThirdsOfAnEgg egg = told("p0111;p0111;");
    due("0 at first", egg.house(1, 99), 0);
    due("house(1, 0)", egg.house(1, 0), 99);
    due("HOUSE", egg.part(1, 4), 0);
  }

  static void promise06_noSuchPart() {
    nobody(2, (egg, part) -> egg.house(part, 5));
  }

  static void promise06_below0IsRefused() {
    refused(-4, egg -> egg.house(0, -1));
    refused(-4, egg -> egg.house(1, LEAST));
  }

  static void promise06_above99IsRefused() {
    refused(-6, egg -> egg.house(0, 100));
    refused(-6, egg -> egg.house(1, GREATEST));
  }

  static void promise06_nobodyComesFirst() {
    nobody(2, (egg, part) -> egg.house(part, -1));
    nobody(2, (egg, part) -> egg.house(part, 100));
  }

  // Promise 7

  static void promise07_volumes1And999Come() {
    TwoThirdsOfAnEgg egg = fresh();
    due("set(0, 999)", egg.set(0, 999), 120);
    due("set(0, 1)", egg.set(0, 1), 999);
    due("VOLUME", egg.count(8), 1);
  }

  static void promise07_times1And99Come() {
    TwoThirdsOfAnEgg egg = fresh();
    due("set(1, 99)", egg.set(1, 99), 30);
    due("set(1, 1)", egg.set(1, 1), 99);
    due("TIME", egg.count(9), 1);
  }

  static void promise07_anotherWhat() {
    noChoice(1, (egg, what) -> egg.set(what, 50));
  }

  static void promise07_below1IsRefused() {
    refused(-4, egg -> egg.set(0, 0));
    refused(-4, egg -> egg.set(1, 0));
    refused(-4, egg -> egg.set(0, LEAST));
    refused(-4, egg -> egg.set(1, LEAST));
  }

  static void promise07_above999Or99IsRefused() {
    refused(-6, egg -> egg.set(0, 1000));
    refused(-6, egg -> egg.set(1, 100));
    refused(-6, egg -> egg.set(0, GREATEST));
    refused(-6, egg -> egg.set(1, GREATEST));
  }

  static void promise07_otherComesFirst() {
    noChoice(1, (egg, what) -> egg.set(what, 0));
    noChoice(1, (egg, what) -> egg.set(what, 1000));
  }

  // Promise 8

  private static void shareDue(TwoThirdsOfAnEgg egg, int g, long above, long below) {
    due("share(0, " + g + ", 0)", egg.share(0, g, 0), above);
    due("share(0, " + g + ", 1)", egg.share(0, g, 1), below);
  }

  static void promise08_for1And24() {
    TwoThirdsOfAnEgg egg = told("f7;p0115;");
    shareDue(egg, 1, 5, 7);
    shareDue(egg, 24, 120, 7);
  }

  static void promise08_inLeastTerms() {
    shareDue(told("f24;p01196;"), 1, 4, 1);
    shareDue(told("f24;p01199;"), 24, 99, 1);
    shareDue(told("f1;p01199;"), 24, 2376, 1);
    shareDue(told("f12;p01110;"), 8, 20, 3);
  }

  static void promise08_noSuchPart() {
    nobodyLong(2, (egg, part) -> egg.share(part, 5, 0));
  }

  static void promise08_below1IsRefused() {
    refusedLong(-4, egg -> egg.share(0, 0, 0));
    refusedLong(-4, egg -> egg.share(1, LEAST, 1));
  }

  static void promise08_above24IsRefused() {
    refusedLong(-6, egg -> egg.share(0, 25, 0));
    refusedLong(-6, egg -> egg.share(1, GREATEST, 1));
  }

  static void promise08_anotherLine() {
    noChoiceLong(1, (egg, line) -> egg.share(0, 5, line));
  }

  static void promise08_inTheOrderTold() {
    nobodyLong(2, (egg, part) -> egg.share(part, 0, 2));
    nobodyLong(2, (egg, part) -> egg.share(part, 25, 2));
    nobodyLong(2, (egg, part) -> egg.share(part, 5, 2));
    refusedLong(-4, egg -> egg.share(0, 0, 2));
    refusedLong(-6, egg -> egg.share(0, 25, 2));
  }

  // Promise 9

  private static void offDue(TwoThirdsOfAnEgg egg, int part, long above, long below) {
    due("off(" + part + ", 0)", egg.off(part, 0), above);
    due("off(" + part + ", 1)", egg.off(part, 1), below);
  }

  static void promise09_ofAllPartMinus1() {
    TwoThirdsOfAnEgg egg = toldFor(3, "f7;p0135;p1102;p1122;");
    offDue(egg, 0, 6, 7);
    offDue(egg, 2, 24, 7);
    offDue(egg, -1, 30, 7);
  }

  static void promise09_ofNoParts() {
    offDue(fresh(), -1, 0, 1);
  }

  static void promise09_costsOf0And9() {
    offDue(toldFor(3, "f7;p1102;"), 0, 0, 1);
    offDue(toldFor(3, "f7;p1192;"), 0, 108, 7);
  }

  static void promise09_theMostThatCanBe() {
    offDue(toldFor(24, EIGHT_GREATEST), -1, 8 * 9 * 12 * 99 * 23, 1);
  }

  static void promise09_inLeastTerms() {
    offDue(toldFor(3, "f6;p1113;"), 0, 6, 1);
    offDue(toldFor(1, "f24;p1111;"), 0, 23, 2);
    offDue(toldFor(1, "f24;p1111;p1111;"), -1, 23, 1);
    offDue(toldFor(6, "f6;p1113;"), 0, 0, 1);
  }

  static void promise09_noSuchPart() {
    for (int none : new int[] {-2, 2, LEAST, GREATEST}) {
      refusedLong(-1, egg -> egg.off(none, 0));
    }
    due("off(0, 0) of no PARTS", fresh().off(0, 0), Check.NOBODY);
  }

  static void promise09_anotherLine() {
    noChoiceLong(1, (egg, line) -> egg.off(0, line));
    noChoiceLong(1, (egg, line) -> egg.off(-1, line));
  }

  static void promise09_nobodyComesFirst() {
    for (int none : new int[] {-2, 2, LEAST, GREATEST}) {
      refusedLong(-1, egg -> egg.off(none, 2));
    }
  }
}
