/** The boundary cases of promises 10 to 19: numbers, SCALE, TINS, what the HOUSE has, STAND-INS. */
final class Boundaries10To19 extends Boundary {
  private Boundaries10To19() {
  }

  /** Both ends of a .. b: those of best() and cheapest(). */
  private interface Ends {
    long on(TwoThirdsOfAnEgg egg, int a, int b);
  }

  private static void ends(int number, Ends ends, int... pairs) {
    for (int i = 0; i + 1 < pairs.length; i += 2) {
      int a = pairs[i];
      int b = pairs[i + 1];
      refused(number, egg -> ends.on(egg, a, b));
    }
  }

  // Promise 10

  /** None is off for even numbers, by six twelfths for the others. */
  static void promise10_bothEndsAreAmongThem() {
    TwoThirdsOfAnEgg egg = told("f6;p1113;");
    due("best(2, 3)", egg.best(2, 3), 2);
    due("best(1, 2)", egg.best(1, 2), 2);
    due("best(23, 24)", egg.best(23, 24), 24);
  }

  static void promise10_ofSeveralTheLeast() {
    TwoThirdsOfAnEgg egg = told("f6;p1113;");
    due("best(1, 24)", egg.best(1, 24), 2);
    due("best(3, 24)", egg.best(3, 24), 4);
    due("best(1, 24) without COST", told("f6;p1103;").best(1, 24), 1);
    due("best(7, 24) without PARTS", fresh().best(7, 24), 7);
  }

  static void promise10_oneNumberAlone() {
    TwoThirdsOfAnEgg egg = told("f6;p1113;");
    due("best(1, 1)", egg.best(1, 1), 1);
    due("best(24, 24)", egg.best(24, 24), 24);
  }

  static void promise10_eitherBelow1IsRefused() {
    ends(-4, TwoThirdsOfAnEgg::best, 0, 5, 5, 0, 0, 0, LEAST, 1, 1, LEAST);
  }

  static void promise10_eitherAbove24IsRefused() {
    ends(-6, TwoThirdsOfAnEgg::best, 25, 5, 5, 25, 25, 25, GREATEST, 1, 1, GREATEST);
  }

  static void promise10_aAboveBIsRefused() {
    ends(-3, TwoThirdsOfAnEgg::best, 2, 1, 24, 1, 24, 23);
  }

  static void promise10_inTheOrderTold() {
    ends(-4, TwoThirdsOfAnEgg::best, 25, 0, 0, 25, 1, 0, LEAST, GREATEST, GREATEST, LEAST);
    ends(-6, TwoThirdsOfAnEgg::best, 25, 1, 25, 24);
  }

  // Promise 11

  static void promise11_howManyWhereIIsMinus1() {
    due("of every second number", told("f6;p1113;").out(-1), 12);
    due("without PARTS", fresh().out(-1), 24);
    due("of none", told("f24;p3911;").out(-1), 0);
  }

  static void promise11_theFirstAndTheLast() {
    TwoThirdsOfAnEgg egg = told("f6;p1113;");
    due("out(0)", egg.out(0), 2);
    due("out(11)", egg.out(11), 24);
    due("out(0) without PARTS", fresh().out(0), 1);
    due("out(23) without PARTS", fresh().out(23), 24);
  }

  static void promise11_behindTheLastThereIsNone() {
    TwoThirdsOfAnEgg egg = told("f6;p1113;");
    due("out(12)", egg.out(12), -9);
    due("out(greatest)", egg.out(GREATEST), -9);
    due("out(24) without PARTS", fresh().out(24), -9);
    due("out(0) of none", told("f24;p3911;").out(0), -9);
  }

  static void promise11_costAside() {
    due("how many", told("f6;p1103;").out(-1), 12);
    due("the first", told("f6;p1103;").out(0), 2);
  }

  static void promise11_noPartAtAll() {
    due("how many of two PARTS", told("f6;p1113;p1112;").out(-1), 4);
    due("the first of two PARTS", told("f6;p1113;p1112;").out(0), 6);
  }

  static void promise11_belowMinus1IsRefused() {
    refused(-4, egg -> egg.out(-2));
    refused(-4, egg -> egg.out(LEAST));
  }

  // Promise 12

  private static void scaleDue(TwoThirdsOfAnEgg egg, int c, int e, int scale, int above, int below) {
    String what = "scale(" + c + ", " + e + ", ";
    due(what + "0)", egg.scale(c, e, 0), scale);
    due(what + "1)", egg.scale(c, e, 1), above);
    due(what + "2)", egg.scale(c, e, 2), below);
  }

  /** By each eight twenty-fourths a whole: none is off. */
  static void promise12_bothEndsAreAmongThem() {
    TwoThirdsOfAnEgg egg = told("f7;p1113;");
    scaleDue(egg, 8, 9, 8, 0, 1);
    scaleDue(egg, 7, 8, 8, 0, 1);
    scaleDue(egg, 1, 1, 1, 21, 2);
    scaleDue(egg, 240, 240, 240, 0, 1);
    scaleDue(egg, 233, 240, 240, 0, 1);
    scaleDue(egg, 9, 15, 9, 3, 2);
  }

  static void promise12_ofSeveralTheLeast() {
    scaleDue(told("f7;p1113;"), 1, 240, 8, 0, 1);
    scaleDue(told("f7;p1113;"), 8, 240, 8, 0, 1);
    scaleDue(told("f7;p1113;"), 9, 240, 16, 0, 1);
    scaleDue(fresh(), 17, 240, 17, 0, 1);
    scaleDue(told("f7;p1103;"), 5, 240, 5, 0, 1);
  }

  static void promise12_theGreatestOffOfAny() {
    scaleDue(told("f7;p1113;p1115;"), 10, 10, 10, 3, 1);
    scaleDue(told("f7;p1115;p1113;"), 10, 10, 10, 3, 1);
    scaleDue(told("f7;p1113;p1135;"), 1, 12, 10, 3, 1);
  }

  static void promise12_eitherBelow1IsRefused() {
    ends(-4, (egg, c, e) -> egg.scale(c, e, 0), 0, 5, 5, 0, 0, 0, LEAST, 1, 1, LEAST);
  }

  static void promise12_eitherAbove240IsRefused() {
    ends(-6, (egg, c, e) -> egg.scale(c, e, 0), 241, 5, 5, 241, 241, 241, GREATEST, 1, 1, GREATEST);
  }

  static void promise12_cGreaterIsRefused() {
    ends(-3, (egg, c, e) -> egg.scale(c, e, 0), 2, 1, 240, 1, 240, 239);
  }

  static void promise12_anotherWhat() {
    noChoice(2, (egg, what) -> egg.scale(1, 240, what));
  }

  static void promise12_inTheOrderTold() {
    ends(-4, (egg, c, e) -> egg.scale(c, e, 3), 241, 0, 0, 241, 1, 0, 0, 1);
    ends(-6, (egg, c, e) -> egg.scale(c, e, 3), 241, 1, 1, 241, 241, 240);
    ends(-3, (egg, c, e) -> egg.scale(c, e, 3), 2, 1);
  }

  // Promise 13

  private static void longDue(TwoThirdsOfAnEgg egg, int time, int guests, int tin, int minutes) {
    egg.set(1, time);
    egg.guests(guests);
    due("LONG in " + tin + ", TIME " + time + ", GUESTS " + guests, egg.tin(tin, 3), minutes);
  }

  static void promise13_noSuchTin() {
    nobody(2, (egg, tin) -> egg.tin(tin, 0));
    refused(-1, Boundary::fresh, egg -> egg.tin(0, 3));
    due("TIN 4 of five", told(FIVE_TINS).tin(4, 1), 5);
    due("TIN 5 of five", told(FIVE_TINS).tin(5, 1), -1);
  }

  static void promise13_anotherWhat() {
    noChoice(3, (egg, what) -> egg.tin(1, what));
  }

  static void promise13_nobodyComesFirst() {
    nobody(2, (egg, tin) -> egg.tin(tin, 4));
  }

  static void promise13_areasOfTheLeastAndTheGreatest() {
    TwoThirdsOfAnEgg egg = told("to1;tq1;to30;tq30;");
    int[] areas = {11, 14, 9900, 12600};
    for (int tin = 0; tin < areas.length; tin++) {
      due("AREA of " + tin, egg.tin(tin, 2), areas[tin]);
    }
  }

  static void promise13_ofTwoMinutesTheLess() {
    TwoThirdsOfAnEgg egg = told("f6;to9;");
    longDue(egg, 1, 9, 0, 1);
    longDue(egg, 1, 15, 0, 2);
    longDue(egg, 1, 16, 0, 3);
  }

  static void promise13_aThirdOfTimeCutAtLeast() {
    TwoThirdsOfAnEgg egg = told("f24;to9;tq30;");
    longDue(egg, 98, 1, 1, 32);
    longDue(egg, 99, 1, 1, 33);
    longDue(egg, 98, 8, 0, 33);
    longDue(egg, 98, 7, 0, 32);
  }

  static void promise13_aMinuteAtLeast() {
    TwoThirdsOfAnEgg egg = told("f24;to9;tq30;");
    longDue(egg, 1, 1, 0, 1);
    longDue(egg, 2, 1, 1, 1);
    longDue(egg, 3, 1, 1, 1);
  }

  static void promise13_999MinutesAtMost() {
    TwoThirdsOfAnEgg egg = told("f1;to3;to1;");
    longDue(egg, 37, 3, 1, 999);
    longDue(egg, 50, 20, 0, 999);
    longDue(egg, 99, 24, 1, 999);
    longDue(egg, 99, 10, 0, 990);
  }

  // Promise 14

  private static void deepDue(TwoThirdsOfAnEgg egg, int tin, long above, long below) {
    due("deep(" + tin + ", 0)", egg.deep(tin, 0), above);
    due("deep(" + tin + ", 1)", egg.deep(tin, 1), below);
  }

  static void promise14_inLeastTerms() {
    TwoThirdsOfAnEgg egg = toldFor(4, "f4;tq6;to9;");
    egg.set(0, 36);
    deepDue(egg, 0, 1, 1);
    deepDue(egg, 1, 56, 99);
  }

  static void promise14_theDeepestAndTheFlattest() {
    TwoThirdsOfAnEgg deepest = toldFor(24, "f1;to1;");
    deepest.set(0, 999);
    deepDue(deepest, 0, 335664, 11);
    TwoThirdsOfAnEgg flattest = toldFor(1, "f24;tq30;");
    flattest.set(0, 1);
    deepDue(flattest, 0, 1, 21600);
  }

  static void promise14_noSuchTin() {
    nobodyLong(2, (egg, tin) -> egg.deep(tin, 0));
    due("deep(0, 0) of no TINS", fresh().deep(0, 0), Check.NOBODY);
    due("deep(5, 0) of five", told(FIVE_TINS).deep(5, 0), Check.NOBODY);
  }

  static void promise14_anotherLine() {
    noChoiceLong(1, (egg, line) -> egg.deep(1, line));
  }

  static void promise14_nobodyComesFirst() {
    nobodyLong(2, (egg, tin) -> egg.deep(tin, 2));
  }

  // Promise 15

  static void promise15_noTins() {
    due("tinFor()", fresh().tinFor(), -9);
  }

  static void promise15_ofSeveralTheLeast() {
    due("two alike", toldFor(6, "f6;to9;to9;").tinFor(), 0);
    due("two nearest", told("f24;to20;to8;to8;").tinFor(), 1);
    // Each is off by three fifths of what is right
    due("as much too flat as too deep", toldFor(2, "f5;tq4;tq2;").tinFor(), 0);
    due("as much too deep as too flat", toldFor(8, "f5;tq2;tq4;").tinFor(), 0);
  }

  static void promise15_forThatManyItIsTin0() {
    due("GUESTS just FOR", toldFor(6, "f6;to9;tq8;to10;").tinFor(), 0);
  }

  static void promise15_theLastOfFive() {
    due("TIN 4", toldFor(24, "f6;to3;to1;to2;to4;to6;").tinFor(), 4);
  }

  // Promise 16

  static void promise16_noneIs0() {
    due("of nothing", told("p0111;").enough(), 0);
    due("of one PART nothing", told("p0111;p0111;h0=99;").enough(), 0);
  }

  static void promise16_24AtMost() {
    due("of all", told("f6;p0111;h0=99;").enough(), 24);
    due("without PARTS", fresh().enough(), 24);
    due("just for 24", told("f24;p0112;h0=2;").enough(), 24);
    due("just not for 24", told("f24;p01199;h0=98;").enough(), 23);
  }

  static void promise16_houseNoLessThanTaken() {
    due("just for 4", told("f6;p0116;h0=4;").enough(), 4);
    due("just for 1", told("f6;p0116;h0=1;").enough(), 1);
    due("a twelfth too little for 1", told("f12;p01113;h0=1;").enough(), 0);
  }

  // Promise 17

  static void promise17_justEnoughDoesNotLack() {
    TwoThirdsOfAnEgg egg = toldFor(4, "f6;p0116;p0116;h0=4;h1=3;");
    due("lacks()", egg.lacks(), 2);
    due("LACKS of a twelfth", toldFor(1, "f12;p0111;").lacks(), 1);
  }

  static void promise17_noPartsAndAllEight() {
    due("no PARTS", fresh().lacks(), 0);
    due("eight PARTS", told(EIGHT_PARTS).lacks(), 255);
    due("the eighth", told(EIGHT_PARTS, "h0=1;h1=1;h2=1;h3=1;h4=1;h5=1;h6=1;").lacks(), 128);
  }

  static void promise17_whatNothingIsTakenOf() {
    due("TAKEN 0 of 0", toldFor(1, "f24;p0111;").lacks(), 0);
  }

  // Promise 18

  static void promise18_noSuchStandIn() {
    nobody(1, (egg, i) -> egg.standIn(i, 0));
    refused(-1, Boundary::fresh, egg -> egg.standIn(0, 0));
    TwoThirdsOfAnEgg six = told("p0111;p0111;p0111;", "s01111;s02111;s10111;s12111;s20111;s21119;");
    due("STAND-IN 5 of six", six.standIn(5, 4), 9);
    due("STAND-IN 6 of six", six.standIn(6, 4), -1);
  }

  static void promise18_anotherWhat() {
    noChoice(4, (egg, what) -> egg.standIn(0, what));
  }

  static void promise18_nobodyComesFirst() {
    nobody(1, (egg, i) -> egg.standIn(i, 5));
  }

  // Promise 19

  static void promise19_noSuchPart() {
    nobody(2, TwoThirdsOfAnEgg::stead);
    refused(-1, Boundary::fresh, egg -> egg.stead(0));
  }

  static void promise19_nothingLacks() {
    due("just enough", toldFor(6, "f6;p0113;h0=3;").stead(0), 0);
    due("none TAKEN", toldFor(1, "f24;p0111;").stead(0), 0);
  }

  static void promise19_noStandInForIt() {
    due("no STAND-IN", toldFor(6, "f6;p0113;h0=2;").stead(0), -9);
    due("one of it alone", toldFor(6, "f6;p0113;p0111;h1=99;s10110;").stead(0), -9);
  }

  static void promise19_whatLacksIsRoundedUp() {
    TwoThirdsOfAnEgg egg = toldFor(1, "f12;p0111;p4111;h1=2;s01115;");
    due("of a twelfth", egg.stead(0), 5);
    due("of 13 twelfths", toldFor(1, "f12;p01113;p4111;h1=9;s01115;").stead(0), 10);
  }

  static void promise19_whatIsTakenOfTheOtherIsRoundedUp() {
    due("a twelfth of the other", toldFor(1, "f12;p0111;p0111;h1=1;s01115;").stead(0), -9);
    due("and a whole more", toldFor(1, "f12;p0111;p0111;h1=2;s01115;").stead(0), 5);
    due("13 twelfths of the other", toldFor(1, "f12;p0111;p01113;h1=2;s01115;").stead(0), -9);
    due("and a whole more than two", toldFor(1, "f12;p0111;p01113;h1=3;s01115;").stead(0), 5);
  }

  static void promise19_theOtherLacksItself() {
    due("less than nothing", toldFor(6, "f6;p0119;p0119;h1=2;s01115;").stead(0), -9);
  }

  static void promise19_asOftenAsTheOtherLets() {
    String book = "f1;p0114;p4111;s01315;h1=";
    due("four times three", toldFor(1, book + "13;").stead(0), 20);
    due("not a fourth time", toldFor(1, book + "12;").stead(0), -9);
  }

  static void promise19_noLessThanWhatLacks() {
    due("just so many", toldFor(1, "f1;p0114;p4111;h1=9;s01122;").stead(0), 4);
    due("more than that", toldFor(1, "f1;p0114;p4111;h1=9;s01132;").stead(0), 4);
    due("much more", toldFor(1, "f1;p0114;p4111;h1=9;s01192;").stead(0), 2);
  }

  static void promise19_theLeastLossTogether() {
    due("one alone", toldFor(1, "f1;p0114;p4111;p4111;h1=9;h2=9;s01129;s02111;").stead(0), 4);
    due("both", toldFor(1, "f1;p0114;p4111;p4111;h1=9;h2=3;s01129;s02111;").stead(0), 11);
    due("at no LOSS", toldFor(1, "f1;p0114;p4111;h1=9;s01110;").stead(0), 0);
  }

  static void promise19_99LackAtMost() {
    TwoThirdsOfAnEgg egg = toldFor(2, "f1;p11150;p4111;h1=99;s01193;");
    due("100 wholes lack", egg.stead(0), -9);
    egg.house(0, 1);
    due("99 wholes lack", egg.stead(0), 33);
    TwoThirdsOfAnEgg most = toldFor(24, "f1;p01199;p4111;h1=99;s01193;");
    due("the most that can lack", most.stead(0), -9);
  }

  static void promise19_98TimesOneWhole() {
    TwoThirdsOfAnEgg egg = toldFor(1, "f1;p11198;p4111;h1=99;s01119;");
    due("98 times", egg.stead(0), 98 * 9);
    egg.house(1, 98);
    due("97 times", egg.stead(0), -9);
  }
}
