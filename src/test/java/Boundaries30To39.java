/** The boundary cases of promises 30 to 39: SEEDS, BACK, PRICES, WEIGHTS, OVEN. */
final class Boundaries30To39 extends Boundary {
  private Boundaries30To39() {
  }

  // Promise 30

  static void promise30_emptyAndFull() {
    due("of an empty ROW", fresh().clear(), 0);
    TwoThirdsOfAnEgg egg = withRow(1, 2, 3, 4, 5, 6, 7, 8);
    due("of a full ROW", egg.clear(), 8);
    due("in the ROW", egg.count(7), 0);
    due("again", egg.clear(), 0);
    due("row(9)", egg.row(9), 1);
    due("its MINUTES", egg.oven(1, 0), 9);
  }

  // Promise 31

  /** With "f1;p4111;" OFF for g is 12 times what g is above 1: so it tells the DRAW. */
  private static void drawDue(int z, int draw) {
    due("the DRAW from " + z, told("f1;p4111;").seeds(1, z, 0), 12 * draw);
  }

  static void promise31_drawsBelow24() {
    drawDue(0, 0);
    drawDue(-66, 23);
    drawDue(1, 14);
  }

  static void promise31_anIntThatWraps() {
    drawDue(GREATEST, 17);
    drawDue(4, 17);
    drawDue(5, 7);
    due("twenty behind one another", told("f1;p4111;").seeds(20, 5, 0), 12 * (207 - 20));
  }

  static void promise31_withoutItsSignsBit() {
    drawDue(LEAST, 0);
    drawDue(-1, 17);
    drawDue(2, 20);
    drawDue(3, 11);
  }

  static void promise31_oneBakingAndTwenty() {
    TwoThirdsOfAnEgg egg = told("f1;p4111;");
    due("of 15", egg.seeds(1, 1, 0), 12 * 14);
    due("of 15 and 23", egg.seeds(2, 1, 0), 12 * 36);
    due("of twenty", egg.seeds(20, 1, 0), 12 * (292 - 20));
    due("the most that can be", told(EIGHT_GREATEST).seeds(20, 1, 0), 8 * 9 * 12 * 99 * (292 - 20));
  }

  static void promise31_inLeastTerms() {
    TwoThirdsOfAnEgg egg = told("f7;p1112;");
    due("above", egg.seeds(3, 1, 0), 72);
    due("below", egg.seeds(3, 1, 1), 7);
    TwoThirdsOfAnEgg whole = told("f6;p1113;");
    due("above, of a whole", whole.seeds(5, 1, 0), 12);
    due("below, of a whole", whole.seeds(5, 1, 1), 1);
    due("above, of nothing", fresh().seeds(20, 1, 0), 0);
    due("below, of nothing", fresh().seeds(20, 1, 1), 1);
  }

  static void promise31_eachBakingByItself() {
    TwoThirdsOfAnEgg egg = told("f1;p0111;h0=20;");
    due("15, 23, 10, 20, 20 of 20", egg.seeds(5, 1, 2), 4);
    egg.house(0, 19);
    due("of 19", egg.seeds(5, 1, 2), 2);
    egg.house(0, 9);
    due("of 9", egg.seeds(5, 1, 2), 0);
    due("HOUSE then", egg.part(0, 4), 9);
    due("without PARTS", fresh().seeds(20, 1, 2), 20);
  }

  static void promise31_below1IsRefused() {
    refusedLong(-4, egg -> egg.seeds(0, 1, 0));
    refusedLong(-4, egg -> egg.seeds(LEAST, 1, 0));
  }

  static void promise31_above20IsRefused() {
    refusedLong(-6, egg -> egg.seeds(21, 1, 0));
    refusedLong(-6, egg -> egg.seeds(GREATEST, 1, 0));
  }

  static void promise31_anotherWhat() {
    noChoiceLong(2, (egg, what) -> egg.seeds(20, 1, what));
  }

  static void promise31_inTheOrderTold() {
    refusedLong(-4, egg -> egg.seeds(0, 1, 3));
    refusedLong(-6, egg -> egg.seeds(21, 1, 3));
  }

  // Promise 32

  static void promise32_noneIsRefused() {
    refused(-3, Boundary::fresh, TwoThirdsOfAnEgg::back);
    TwoThirdsOfAnEgg egg = fresh();
    egg.guests(5);
    due("back()", egg.back(), 4);
    due("back() again", egg.back(), -3);
    due("GUESTS then", egg.count(2), 4);
  }

  static void promise32_theLatestFirst() {
    TwoThirdsOfAnEgg egg = fresh();
    egg.guests(5);
    egg.guests(6);
    egg.guests(7);
    due("back()", egg.back(), 6);
    due("that can be taken BACK", egg.count(17), 2);
    due("guests(9)", egg.guests(9), 6);
    due("back() to 6", egg.back(), 6);
    due("back() to 5", egg.back(), 5);
    due("back() to 4", egg.back(), 4);
  }

  static void promise32_eightAtMostOlderOnesNoMore() {
    TwoThirdsOfAnEgg egg = fresh();
    for (int g = 11; g <= 18; g++) {
      egg.guests(g);
    }
    due("eight", egg.count(17), 8);
    egg.guests(19);
    due("eight of nine", egg.count(17), 8);
    egg.guests(20);
    for (int g = 19; g >= 12; g--) {
      due("back()", egg.back(), g);
    }
    due("back() to older ones", egg.back(), -3);
    due("GUESTS", egg.count(2), 12);
  }

  static void promise32_aBookLeavesNone() {
    TwoThirdsOfAnEgg egg = toldFor(9, "f8;");
    due("the BOOK", Check.tell(egg, "f7;"), 1);
    due("that can be taken BACK", egg.count(17), 0);
    due("back()", egg.back(), -3);
  }

  static void promise32_restoreLeavesNone() {
    TwoThirdsOfAnEgg egg = fresh();
    egg.guests(9);
    egg.image();
    due("the image leaves it", egg.count(17), 1);
    egg.guests(7);
    due("restore()", egg.restore(), 9);
    due("that can be taken BACK", egg.count(17), 0);
    due("back()", egg.back(), -3);
  }

  static void promise32_whereTheyAreRefusedTheyLeaveThem() {
    for (String wrong : new String[] {"", "f0;", "f7"}) {
      TwoThirdsOfAnEgg egg = toldFor(9, "f8;");
      Check.tell(egg, wrong);
      due("that can be taken BACK behind " + wrong, egg.count(17), 1);
      due("back() behind " + wrong, egg.back(), 4);
    }
    TwoThirdsOfAnEgg egg = fresh();
    egg.guests(9);
    due("restore()", egg.restore(), -3);
    due("back() behind it", egg.back(), 4);
  }

  static void promise32_refusedGuestsAreNone() {
    TwoThirdsOfAnEgg egg = fresh();
    egg.guests(0);
    egg.guests(25);
    due("back()", egg.back(), -3);
  }

  // Promise 33

  static void promise33_prices0And99Come() {
    TwoThirdsOfAnEgg egg = told("p0111;p0111;");
    due("0 at first", egg.price(1, 99), 0);
    due("price(1, 0)", egg.price(1, 0), 99);
    due("price(1, 5)", egg.price(1, 5), 0);
    due("of the other", egg.price(0, 1), 0);
  }

  static void promise33_noSuchPart() {
    nobody(2, (egg, part) -> egg.price(part, 5));
  }

  static void promise33_below0IsRefused() {
    refused(-4, egg -> egg.price(0, -1));
    refused(-4, egg -> egg.price(1, LEAST));
  }

  static void promise33_above99IsRefused() {
    refused(-6, egg -> egg.price(0, 100));
    refused(-6, egg -> egg.price(1, GREATEST));
  }

  static void promise33_nobodyComesFirst() {
    nobody(2, (egg, part) -> egg.price(part, -1));
    nobody(2, (egg, part) -> egg.price(part, 100));
  }

  // Promise 34

  private static void buyDue(int pence, String book, int price, int g) {
    TwoThirdsOfAnEgg egg = told(book);
    egg.price(0, price);
    due("buy(" + g + ") of " + book, egg.buy(g), pence);
  }

  static void promise34_for1And24() {
    buyDue(1, "f1;p0111;", 1, 1);
    buyDue(24, "f1;p0111;", 1, 24);
    buyDue(99 * 99 * 24, "f1;p01199;", 99, 24);
  }

  static void promise34_whatLacksIsRoundedUp() {
    buyDue(7, "f12;p0111;", 7, 1);
    buyDue(7, "f12;p0111;", 7, 12);
    buyDue(14, "f12;p0111;", 7, 13);
    buyDue(7, "f12;p01113;h0=1;", 7, 1);
  }

  static void promise34_whatIsThereIsNotBought() {
    buyDue(0, "f6;p0113;h0=3;", 99, 6);
    buyDue(0, "f6;p0113;h0=99;", 99, 6);
    buyDue(99, "f6;p0113;h0=2;", 99, 6);
    due("without PARTS", fresh().buy(24), 0);
    due("without PRICES", told("f1;p0119;").buy(24), 0);
  }

  static void promise34_packetsToStepsOfThem() {
    buyDue(30, "f6;p3313;", 10, 6);
    buyDue(60, "f6;p3314;", 10, 6);
    buyDue(60, "f6;p3314;h0=2;", 10, 6);
    buyDue(30, "f6;p3314;h0=3;", 10, 6);
    buyDue(30, "f6;p3314;h0=5;", 10, 6);
    buyDue(0, "f6;p3314;h0=6;", 10, 6);
  }

  static void promise34_below1IsRefused() {
    refused(-4, egg -> egg.buy(0));
    refused(-4, egg -> egg.buy(LEAST));
  }

  static void promise34_above24IsRefused() {
    refused(-6, egg -> egg.buy(25));
    refused(-6, egg -> egg.buy(GREATEST));
  }

  // Promise 35

  private static TwoThirdsOfAnEgg packets() {
    TwoThirdsOfAnEgg egg = told("f6;p3616;");
    egg.price(0, 5);
    return egg;
  }

  /** A packet does for six: so by g six and its multiples are cheapest. */
  static void promise35_bothEndsAreAmongThem() {
    due("cheapest(1, 6)", packets().cheapest(1, 6), 6);
    due("cheapest(6, 7)", packets().cheapest(6, 7), 6);
    due("cheapest(23, 24)", packets().cheapest(23, 24), 24);
    due("cheapest(7, 11)", packets().cheapest(7, 11), 11);
  }

  static void promise35_ofSeveralTheLeast() {
    due("cheapest(1, 24)", packets().cheapest(1, 24), 6);
    due("cheapest(7, 24)", packets().cheapest(7, 24), 12);
    due("without PARTS", fresh().cheapest(5, 24), 5);
    due("where nothing lacks", told("f6;p0111;h0=99;").cheapest(1, 24), 1);
  }

  /** Nine wholes for all and one for each: the more the cheaper by g, though BUY grows. */
  static void promise35_byTheNumberThoughBuyIsMore() {
    TwoThirdsOfAnEgg egg = told("f1;p0111;p4119;");
    egg.price(0, 1);
    egg.price(1, 1);
    due("buy(1)", egg.buy(1), 10);
    due("buy(24)", egg.buy(24), 33);
    due("cheapest(1, 24)", egg.cheapest(1, 24), 24);
    due("cheapest(1, 9)", egg.cheapest(1, 9), 9);
  }

  static void promise35_oneNumberAlone() {
    due("cheapest(1, 1)", packets().cheapest(1, 1), 1);
    due("cheapest(24, 24)", packets().cheapest(24, 24), 24);
  }

  static void promise35_eitherBelow1IsRefused() {
    refused(-4, egg -> egg.cheapest(0, 5));
    refused(-4, egg -> egg.cheapest(5, 0));
    refused(-4, egg -> egg.cheapest(LEAST, LEAST));
  }

  static void promise35_eitherAbove24IsRefused() {
    refused(-6, egg -> egg.cheapest(25, 5));
    refused(-6, egg -> egg.cheapest(5, 25));
    refused(-6, egg -> egg.cheapest(GREATEST, GREATEST));
  }

  static void promise35_aAboveBIsRefused() {
    refused(-3, egg -> egg.cheapest(2, 1));
    refused(-3, egg -> egg.cheapest(24, 23));
  }

  static void promise35_inTheOrderTold() {
    refused(-4, egg -> egg.cheapest(25, 0));
    refused(-4, egg -> egg.cheapest(0, 25));
    refused(-4, egg -> egg.cheapest(1, 0));
    refused(-6, egg -> egg.cheapest(25, 24));
  }

  // Promise 36

  private static TwoThirdsOfAnEgg fiveWeights() {
    return withWeights(1, 2, 4, 8, 16);
  }

  static void promise36_1And40OuncesCome() {
    TwoThirdsOfAnEgg egg = fresh();
    due("weight(1)", egg.weight(1), 1);
    due("weight(40)", egg.weight(40), 2);
    due("weighed(41, 0)", egg.weighed(41, 0), 2);
  }

  static void promise36_below1IsRefused() {
    refused(-4, egg -> egg.weight(0));
    refused(-4, egg -> egg.weight(LEAST));
  }

  static void promise36_above40IsRefused() {
    refused(-6, egg -> egg.weight(41));
    refused(-6, egg -> egg.weight(GREATEST));
  }

  static void promise36_theFifthComes() {
    TwoThirdsOfAnEgg egg = fresh();
    for (int i = 1; i <= 5; i++) {
      due("weight " + i, egg.weight(7), i);
    }
    due("WEIGHTS", egg.count(10), 5);
  }

  static void promise36_theSixthIsRefused() {
    refused(-6, Boundaries30To39::fiveWeights, egg -> egg.weight(1));
    refused(-6, Boundaries30To39::fiveWeights, egg -> egg.weight(41));
  }

  static void promise36_belowComesAheadOfNoRoom() {
    refused(-4, Boundaries30To39::fiveWeights, egg -> egg.weight(0));
  }

  // Promise 37

  private static void weighedDue(TwoThirdsOfAnEgg egg, int n, int many, int how) {
    due("weighed(" + n + ", 0)", egg.weighed(n, 0), many);
    due("weighed(" + n + ", 1)", egg.weighed(n, 1), how);
  }

  static void promise37_1And200Ounces() {
    weighedDue(withWeights(1), 1, 1, 1);
    weighedDue(withWeights(39, 40), 1, 2, 2 + 32);
    weighedDue(withWeights(40, 40, 40, 40, 40), 200, 5, 31);
  }

  static void promise37_thereIsNone() {
    weighedDue(fresh(), 1, -9, -9);
    weighedDue(withWeights(1, 3, 9), 14, -9, -9);
    weighedDue(withWeights(40, 40, 40, 40, 40), 199, -9, -9);
    weighedDue(withWeights(40, 40, 40, 40, 39), 200, -9, -9);
  }

  static void promise37_theFewestWeights() {
    weighedDue(withWeights(1, 2, 3), 3, 1, 4);
    weighedDue(withWeights(3, 1, 4, 2), 2, 1, 8);
    weighedDue(withWeights(1, 2, 4, 8, 40), 25, 5, 16 + 32 * 15);
  }

  static void promise37_ofSeveralTheLeast() {
    weighedDue(withWeights(2, 2), 2, 1, 1);
    weighedDue(withWeights(3, 1, 5, 7), 2, 2, 4 + 32);
    weighedDue(withWeights(7, 5, 3, 1), 2, 2, 1 + 32 * 2);
    weighedDue(withWeights(1, 1, 3, 3), 2, 2, 3);
  }

  static void promise37_below1IsRefused() {
    refused(-4, egg -> egg.weighed(0, 0));
    refused(-4, egg -> egg.weighed(LEAST, 1));
  }

  static void promise37_above200IsRefused() {
    refused(-6, egg -> egg.weighed(201, 0));
    refused(-6, egg -> egg.weighed(GREATEST, 1));
  }

  static void promise37_anotherWhat() {
    noChoice(1, (egg, what) -> egg.weighed(200, what));
  }

  static void promise37_inTheOrderTold() {
    refused(-4, egg -> egg.weighed(0, 2));
    refused(-6, egg -> egg.weighed(201, 2));
  }

  // Promise 38

  static void promise38_noWeightsAndFive() {
    due("of none", fresh().heavy(), 0);
    due("of five of 40", withWeights(40, 40, 40, 40, 40).heavy(), 5);
    due("of 1, 3, 9, 27, 40", withWeights(1, 3, 9, 27, 40).heavy(), 80);
  }

  static void promise38_from1To200() {
    due("1 is one of them", withWeights(1).heavy(), 1);
    due("200 is one of them", withWeights(40, 40, 40, 40, 40).weighed(200, 0), 5);
    due("0 is none of them", withWeights(7, 7).heavy(), 2);
  }

  // Promise 39

  private static void ovenDue(TwoThirdsOfAnEgg egg, int s, int when, int soonest, int shelves) {
    due("oven(" + s + ", 0)", egg.oven(s, 0), when);
    due("oven(" + s + ", 1)", egg.oven(s, 1), soonest);
    due("oven(" + s + ", 2)", egg.oven(s, 2), shelves);
  }

  static void promise39_oneShelfAndThree() {
    TwoThirdsOfAnEgg egg = withRow(10, 20, 30, 40);
    ovenDue(egg, 1, 100, 100, 0);
    ovenDue(egg, 2, 60, 50, 4 + 16);
    ovenDue(egg, 3, 50, 40, 1 + 2 * 4 + 16);
  }

  static void promise39_anEmptyRow() {
    for (int s = 1; s <= 3; s++) {
      ovenDue(fresh(), s, 0, 0, 0);
    }
  }

  static void promise39_aFullRow() {
    TwoThirdsOfAnEgg egg = withRow(99, 99, 99, 99, 99, 99, 99, 99);
    ovenDue(egg, 1, 792, 792, 0);
    ovenDue(egg, 2, 396, 396, 1 + 4 + 16 + 64);
    ovenDue(egg, 3, 297, 297, 2 + 2 * 4 + 16 + 64 + 256);
  }

  static void promise39_minutesOf0() {
    ovenDue(withRow(0, 0, 7), 2, 7, 7, 0);
    ovenDue(withRow(0), 3, 0, 0, 0);
  }

  static void promise39_eachToTheShelfThatIsFreeFirst() {
    due("the last on the first", withRow(5, 5, 9).oven(2, 0), 14);
    due("the last on the second", withRow(6, 2, 7).oven(2, 0), 9);
    due("the last on the third", withRow(4, 6, 2, 5).oven(3, 0), 7);
  }

  static void promise39_theFirstOfTheSoonest() {
    ovenDue(withRow(5, 5, 5), 2, 10, 10, 1);
    ovenDue(withRow(5, 5, 5), 3, 5, 5, 2 + 4);
    ovenDue(withRow(1, 1, 9), 2, 10, 9, 1 + 4);
  }

  static void promise39_theRowStays() {
    TwoThirdsOfAnEgg egg = withRow(10, 20, 30);
    ovenDue(egg, 2, 40, 30, 1 + 4);
    due("in the ROW", egg.count(7), 3);
    ovenDue(egg, 2, 40, 30, 1 + 4);
  }

  static void promise39_below1IsRefused() {
    refused(-4, egg -> egg.oven(0, 0));
    refused(-4, egg -> egg.oven(LEAST, 0));
  }

  static void promise39_above3IsRefused() {
    refused(-6, egg -> egg.oven(4, 0));
    refused(-6, egg -> egg.oven(GREATEST, 0));
  }

  static void promise39_anotherWhat() {
    noChoice(2, (egg, what) -> egg.oven(3, what));
  }

  static void promise39_inTheOrderTold() {
    refused(-4, egg -> egg.oven(0, 3));
    refused(-6, egg -> egg.oven(4, 3));
  }
}
