/** The boundary cases of promises 40 to 51: two recipes, PATH, DISHES, FAIR, THE IMAGE, what count() tells. */
final class Boundaries40To51 extends Boundary {
  private Boundaries40To51() {
  }

  // Promise 40

  static void promise40_also0And99Come() {
    TwoThirdsOfAnEgg egg = told("p0111;p0111;");
    due("0 at first", egg.also(1, 99), 0);
    due("also(1, 0)", egg.also(1, 0), 99);
    due("also(1, 5)", egg.also(1, 5), 0);
    due("of the other", egg.also(0, 1), 0);
  }

  static void promise40_noSuchPart() {
    nobody(2, (egg, part) -> egg.also(part, 5));
  }

  static void promise40_below0IsRefused() {
    refused(-4, egg -> egg.also(0, -1));
    refused(-4, egg -> egg.also(1, LEAST));
  }

  static void promise40_above99IsRefused() {
    refused(-6, egg -> egg.also(0, 100));
    refused(-6, egg -> egg.also(1, GREATEST));
  }

  static void promise40_nobodyComesFirst() {
    nobody(2, (egg, part) -> egg.also(part, -1));
    nobody(2, (egg, part) -> egg.also(part, 100));
  }

  // Promise 41

  /** A recipe of one PART, AMOUNT 1 FOR 1, and ALSO of it in the second. */
  private static void recipesDue(int house, int also, int x, int y) {
    TwoThirdsOfAnEgg egg = told("f1;p0111;");
    egg.house(0, house);
    egg.also(0, also);
    due("x with HOUSE " + house + ", ALSO " + also, egg.recipes(0), x);
    due("y with HOUSE " + house + ", ALSO " + also, egg.recipes(1), y);
  }

  static void promise41_24OfEachAtMost() {
    due("x without PARTS", fresh().recipes(0), 24);
    due("y without PARTS", fresh().recipes(1), 24);
    recipesDue(48, 1, 24, 24);
    recipesDue(99, 1, 24, 24);
    recipesDue(25, 1, 24, 1);
  }

  static void promise41_noneOfEither() {
    recipesDue(0, 1, 0, 0);
    recipesDue(0, 0, 0, 24);
    recipesDue(3, 99, 3, 0);
  }

  static void promise41_byHouseNoMore() {
    recipesDue(26, 2, 24, 1);
    recipesDue(27, 2, 24, 1);
    recipesDue(28, 2, 24, 2);
  }

  static void promise41_ofSeveralTheMostX() {
    recipesDue(10, 1, 10, 0);
    TwoThirdsOfAnEgg egg = told("f1;p0113;h0=6;");
    egg.also(0, 2);
    due("x of 6, of 3 and 2 each", egg.recipes(0), 0);
    due("y of 6, of 3 and 2 each", egg.recipes(1), 3);
    egg.house(0, 7);
    due("x of 7, of 3 and 2 each", egg.recipes(0), 1);
    due("y of 7, of 3 and 2 each", egg.recipes(1), 2);
  }

  static void promise41_anotherWhat() {
    noChoice(1, TwoThirdsOfAnEgg::recipes);
  }

  // Promise 42

  static void promise42_of0AndOf99() {
    TwoThirdsOfAnEgg egg = told("p0111;p01199;");
    due("needed(0, 0, 1)", egg.needed(0, 0, 1), 0);
    due("needed(0, 99, 1)", egg.needed(0, 99, 1), 12 * 99 * 99);
    due("needed(1, 99, 0)", egg.needed(1, 99, 0), 12);
  }

  static void promise42_ofTwoTwelfthsTheLess() {
    TwoThirdsOfAnEgg egg = told("p01124;p0111;");
    due("half a twelfth", egg.needed(0, 1, 1), 0);
    due("a twelfth and a half", egg.needed(0, 3, 1), 1);
    due("two twelfths", egg.needed(0, 4, 1), 2);
    due("a little more than a half", told("p01123;p0111;").needed(0, 1, 1), 1);
  }

  static void promise42_onePartIsNoTwo() {
    refused(-1, egg -> egg.needed(0, 5, 0));
    refused(-1, egg -> egg.needed(1, 5, 1));
    refused(-1, egg -> egg.needed(0, -1, 0));
    refused(-1, egg -> egg.needed(0, 100, 0));
  }

  static void promise42_noSuchPart() {
    nobody(2, (egg, part) -> egg.needed(part, 5, 0));
    nobody(2, (egg, other) -> egg.needed(0, 5, other));
  }

  static void promise42_below0IsRefused() {
    refused(-4, egg -> egg.needed(0, -1, 1));
    refused(-4, egg -> egg.needed(1, LEAST, 0));
  }

  static void promise42_above99IsRefused() {
    refused(-6, egg -> egg.needed(0, 100, 1));
    refused(-6, egg -> egg.needed(1, GREATEST, 0));
  }

  static void promise42_nobodyComesFirst() {
    nobody(2, (egg, part) -> egg.needed(part, -1, 0));
    nobody(2, (egg, other) -> egg.needed(0, -1, other));
    nobody(2, (egg, part) -> egg.needed(part, 100, 0));
    nobody(2, (egg, other) -> egg.needed(0, 100, other));
  }

  // Promise 43

  static void promise43_noneWithCostAbove0() {
    due("no PARTS", fresh().forgotten(), -9);
    due("no COST", told("p0109;p0109;").forgotten(), -9);
  }

  static void promise43_costAbove0() {
    due("the only one that costs", told("p01099;p0111;").forgotten(), 1);
    due("the last of eight", told("p0101;".repeat(7) + "p0111;").forgotten(), 7);
  }

  static void promise43_ofSeveralTheLeast() {
    due("alike", told("p0111;p0111;").forgotten(), 0);
    due("AMOUNT by COST alike", told("p0101;p0123;p0132;").forgotten(), 1);
    due("the second is more", told("p0123;p0133;").forgotten(), 1);
  }

  // Promise 44

  static void promise44_noTwoTins() {
    due("no TIN", fresh().pair(), -9);
    due("one TIN", told("to9;").pair(), -9);
    due("two TINS", told("to9;to1;").pair(), 1);
  }

  static void promise44_ofSeveralTheFirst() {
    due("three alike", told("to9;to9;to9;").pair(), 1);
    due("one of two alike", toldFor(6, "f6;to10;to30;to6;to8;to8;").pair(), 23);
    due("as much too little as too much", toldFor(5, "f4;to10;to1;to7;").pair(), 1);
    due("as much too much as too little", toldFor(5, "f4;to10;to7;to1;").pair(), 1);
  }

  static void promise44_theLastPair() {
    due("of five TINS", told("f4;to10;to30;to30;to7;to7;").pair(), 34);
  }

  // Promise 45

  private static void pathDue(String cups, int n, int... steps) {
    TwoThirdsOfAnEgg egg = told(cups);
    for (int i = 0; i < steps.length; i++) {
      due(cups + " path(" + n + ", " + i + ")", egg.path(n, i), steps[i]);
    }
    due(cups + " path behind the last", egg.path(n, steps.length), -9);
    due(cups + " path far behind it", egg.path(n, GREATEST), -9);
  }

  static void promise45_of1AndOf12() {
    pathDue("c010000;", 1, 100);
    pathDue("c001200;", 12, 101);
    pathDue("c000012;", 12, 102);
  }

  static void promise45_behindTheLastThereIsNone() {
    pathDue("c050300;", 4, 100, 310, 201, 310, 100, 310);
  }

  static void promise45_noWayToIt() {
    pathDue("c050300;", 6);
    pathDue("c000000;", 1);
    pathDue("c121212;", 11);
  }

  static void promise45_ofSeveralWaysTheFirst() {
    pathDue("c030303;", 3, 100);
    pathDue("c000303;", 3, 101);
    pathDue("c050303;", 2, 100, 310);
    pathDue("c030503;", 2, 101, 301);
    pathDue("c030305;", 2, 102, 302);
    pathDue("c050503;", 2, 100, 320);
  }

  static void promise45_nBelow1IsRefused() {
    refused(-4, egg -> egg.path(0, 0));
    refused(-4, egg -> egg.path(LEAST, 0));
  }

  static void promise45_iBelow0IsRefused() {
    refused(-4, egg -> egg.path(1, -1));
    refused(-4, egg -> egg.path(12, LEAST));
  }

  static void promise45_above12IsRefused() {
    refused(-6, egg -> egg.path(13, 0));
    refused(-6, egg -> egg.path(GREATEST, 0));
  }

  static void promise45_belowComesFirst() {
    refused(-4, egg -> egg.path(13, -1));
    refused(-4, egg -> egg.path(GREATEST, LEAST));
  }

  // Promise 46

  private static TwoThirdsOfAnEgg fourDishes() {
    TwoThirdsOfAnEgg egg = told("p3911;p3911;");
    for (int i = 0; i < 4; i++) {
      egg.dish(0, 1, 1, 1, i);
    }
    return egg;
  }

  static void promise46_fourAtMost() {
    TwoThirdsOfAnEgg egg = told("p0111;");
    for (int i = 0; i < 4; i++) {
      due("DISH " + i, egg.dish(0, 1, 0, 1, 1), i);
    }
    due("DISHES", egg.count(18), 4);
    refused(-6, Boundaries40To51::fourDishes, it -> it.dish(0, 1, 1, 1, 1));
  }

  static void promise46_0And99Come() {
    TwoThirdsOfAnEgg egg = toldFor(6, "f6;p3911;p3911;");
    due("of 99", egg.dish(0, 96, 1, 96, 99), 0);
    due("of 0", egg.dish(0, 0, 1, 0, 0), 1);
    due("WORTH", egg.usedUp(0), 99);
    due("99 twelfths of each", egg.dish(0, 99, 1, 99, 1), 2);
  }

  static void promise46_noSuchPart() {
    nobody(2, (egg, part) -> egg.dish(part, 1, 0, 1, 1));
    nobody(2, (egg, other) -> egg.dish(0, 1, other, 1, 1));
    nobody(2, (egg, both) -> egg.dish(both, 1, both, 1, 1));
  }

  static void promise46_eachBelow0IsRefused() {
    refused(-4, egg -> egg.dish(0, -1, 1, 1, 1));
    refused(-4, egg -> egg.dish(0, 1, 1, -1, 1));
    refused(-4, egg -> egg.dish(0, 1, 1, 1, -1));
    refused(-4, egg -> egg.dish(0, LEAST, 1, LEAST, LEAST));
  }

  static void promise46_eachAbove99IsRefused() {
    refused(-6, egg -> egg.dish(0, 100, 1, 1, 1));
    refused(-6, egg -> egg.dish(0, 1, 1, 100, 1));
    refused(-6, egg -> egg.dish(0, 1, 1, 1, 100));
    refused(-6, egg -> egg.dish(0, GREATEST, 1, GREATEST, GREATEST));
  }

  static void promise46_inTheOrderTold() {
    nobody(2, (egg, part) -> egg.dish(part, -1, 0, 100, 1));
    nobody(2, (egg, other) -> egg.dish(0, -1, other, 100, 1));
    nobody(2, (egg, other) -> egg.dish(0, 100, other, 1, 1));
    refused(-4, egg -> egg.dish(0, 100, 1, 100, -1));
    refused(-4, egg -> egg.dish(0, -1, 1, 100, 100));
    refused(-1, Boundaries40To51::fourDishes, egg -> egg.dish(2, 1, 1, 1, 1));
    refused(-4, Boundaries40To51::fourDishes, egg -> egg.dish(0, 1, 1, 1, -1));
  }

  // Promise 47

  /** 4 twelfths of PART 0 and 16 of PART 1 are LEFT. */
  private static void usedUpDue(int worth, int set, int[]... dishes) {
    TwoThirdsOfAnEgg egg = toldFor(4, "f6;p1111;p3211;");
    for (int[] dish : dishes) {
      egg.dish(dish[0], dish[1], dish[2], dish[3], dish[4]);
    }
    due("WORTH", egg.usedUp(0), worth);
    due("the set", egg.usedUp(1), set);
  }

  static void promise47_noDishes() {
    due("WORTH", fresh().usedUp(0), 0);
    due("the set", fresh().usedUp(1), 0);
  }

  static void promise47_whatIsLeftIsJustEnough() {
    usedUpDue(9, 1, new int[] {0, 4, 1, 16, 9});
    usedUpDue(0, 0, new int[] {0, 5, 1, 16, 9});
    usedUpDue(0, 0, new int[] {0, 4, 1, 17, 9});
    usedUpDue(9, 1, new int[] {1, 8, 1, 8, 9});
    usedUpDue(0, 0, new int[] {1, 8, 1, 9, 9});
    usedUpDue(5, 3, new int[] {0, 1, 1, 6, 2}, new int[] {0, 3, 1, 10, 3});
    usedUpDue(3, 2, new int[] {0, 1, 1, 7, 2}, new int[] {0, 3, 1, 10, 3});
  }

  static void promise47_allFour() {
    int[] dish = {0, 1, 1, 4, 99};
    usedUpDue(396, 15, dish, dish, dish, dish);
    usedUpDue(297, 7, dish, dish, dish, new int[] {0, 2, 1, 4, 99});
  }

  static void promise47_theLeastBits() {
    int[] dish = {0, 3, 1, 1, 7};
    usedUpDue(7, 1, dish, dish, dish, dish);
    usedUpDue(7, 3, new int[] {0, 2, 1, 1, 3}, new int[] {0, 2, 1, 1, 4}, new int[] {0, 4, 1, 1, 7});
    usedUpDue(7, 1, dish, new int[] {0, 0, 1, 0, 0});
    usedUpDue(0, 0, new int[] {0, 0, 1, 0, 0});
  }

  static void promise47_anotherWhat() {
    noChoice(1, TwoThirdsOfAnEgg::usedUp);
  }

  // Promise 48

  private static void fairDue(int group, int apart, int... minutes) {
    TwoThirdsOfAnEgg egg = withRow(minutes);
    due("fair(0)", egg.fair(0), group);
    due("fair(1)", egg.fair(1), apart);
    due("in the ROW", egg.count(7), minutes.length);
  }

  static void promise48_oneAlone() {
    fairDue(1, 1, 1);
    fairDue(1, 99, 99);
  }

  static void promise48_eightOfThem() {
    fairDue(15, 0, 9, 9, 9, 9, 9, 9, 9, 9);
    fairDue(127, 92, 1, 1, 1, 1, 1, 1, 1, 99);
    fairDue(1, 92, 99, 1, 1, 1, 1, 1, 1, 1);
  }

  static void promise48_ofSeveralTheLeast() {
    fairDue(1, 1, 1, 1, 1);
    fairDue(3, 0, 4, 4, 4, 4);
    fairDue(3, 1, 1, 2, 4);
  }

  static void promise48_theGroupOfTheFirst() {
    fairDue(11, 0, 1, 1, 3, 1);
    fairDue(5, 0, 1, 3, 2);
    fairDue(1, 0, 3, 1, 2);
  }

  static void promise48_anotherWhat() {
    noChoice(1, TwoThirdsOfAnEgg::fair);
  }

  static void promise48_noneInTheRow() {
    refused(-3, Boundary::fresh, egg -> egg.fair(0));
    refused(-3, Boundary::fresh, egg -> egg.fair(1));
  }

  static void promise48_oneIs0() {
    refused(-3, () -> withRow(0), egg -> egg.fair(0));
    refused(-3, () -> withRow(0, 5, 6), egg -> egg.fair(1));
    refused(-3, () -> withRow(5, 0, 6), egg -> egg.fair(0));
    refused(-3, () -> withRow(1, 2, 3, 4, 5, 6, 7, 0), egg -> egg.fair(1));
  }

  static void promise48_otherComesFirst() {
    refused(-2, Boundary::fresh, egg -> egg.fair(2));
    refused(-2, () -> withRow(0), egg -> egg.fair(-1));
  }

  // Promise 49

  static void promise49_guests() {
    due("of a new object", fresh().image(), 4);
    due("for 24", toldFor(24, "f8;").image(), 24);
  }

  static void promise49_theLatestAlone() {
    TwoThirdsOfAnEgg egg = fresh();
    egg.guests(5);
    egg.image();
    egg.guests(6);
    egg.image();
    egg.guests(7);
    due("restore()", egg.restore(), 6);
    due("restore() again", egg.restore(), 6);
  }

  static void promise49_itChangesNothing() {
    TwoThirdsOfAnEgg egg = kitchen();
    String before = Check.all(egg);
    due("image()", egg.image(), 7);
    Check.due("all behind it", Check.all(egg), before);
    due("letters", egg.count(6), 6);
    due("in the ROW", egg.count(7), 2);
    due("that can be taken BACK", egg.count(17), 2);
  }

  // Promise 50

  static void promise50_noneIsRefused() {
    refused(-3, Boundary::fresh, TwoThirdsOfAnEgg::restore);
    refused(-3, () -> toldFor(7, "f8;"), TwoThirdsOfAnEgg::restore);
  }

  private static void changeAll(TwoThirdsOfAnEgg egg) {
    egg.clear();
    egg.book();
    due("the BOOK", Check.tell(egg, "f9;p0111;h0=99;h1=98;h2=9;to30;s10111;c121110;"), 8);
    egg.guests(24);
    egg.set(0, 1);
    egg.set(1, 1);
    for (int part = 0; part < 3; part++) {
      egg.price(part, 40 + part);
      egg.also(part, 50 + part);
    }
    egg.weight(40);
    egg.dish(0, 0, 0, 0, 99);
  }

  static void promise50_allThatThereIs() {
    TwoThirdsOfAnEgg egg = kitchen();
    String before = Check.all(egg);
    egg.image();
    changeAll(egg);
    due("restore()", egg.restore(), 7);
    Check.due("all that there was", Check.all(egg), before);
    changeAll(egg);
    due("restore() again", egg.restore(), 7);
    Check.due("all that there was, again", Check.all(egg), before);
  }

  static void promise50_toAnObjectThatIsFull() {
    TwoThirdsOfAnEgg egg = fresh();
    egg.image();
    due("the BOOK", Check.tell(egg, EIGHT_PARTS + FIVE_TINS), 13);
    for (int i = 0; i < 5; i++) {
      egg.weight(40);
      egg.dish(7, 1, 0, 1, 9);
    }
    due("restore()", egg.restore(), 4);
    Check.due("all of a new object", Check.all(egg), Check.all(fresh()));
    due("the BOOK of PARTS anew", Check.tell(egg, EIGHT_PARTS + FIVE_TINS), 13);
    due("HOUSE of the last", egg.part(7, 4), 0);
  }

  static void promise50_butLettersTheRowAndRefusals() {
    TwoThirdsOfAnEgg egg = fresh();
    feedAll(egg, "f");
    egg.row(1);
    egg.guests(0);
    egg.image();
    feedAll(egg, "9");
    egg.row(2);
    egg.guests(0);
    egg.guests(25);
    egg.restore();
    due("letters", egg.count(6), 2);
    due("in the ROW", egg.count(7), 2);
    due("the MINUTES of both", egg.oven(1, 0), 3);
    Check.due("REFUSALS", Check.refusals(egg), "0 0 0 2 1");
    feedAll(egg, ";");
    due("the BOOK", egg.book(), 1);
    due("FOR", egg.count(1), 9);
  }

  static void promise50_theImageItself() {
    TwoThirdsOfAnEgg egg = fresh();
    egg.guests(5);
    egg.image();
    egg.restore();
    egg.guests(6);
    due("restore() once more", egg.restore(), 5);
  }

  // Promise 51

  static void promise51_anotherWhat() {
    for (int what : new int[] {-1, 19, 23, 24, LEAST, GREATEST}) {
      TwoThirdsOfAnEgg egg = kitchen();
      due("count(" + what + ")", egg.count(what), -9);
      Check.due("REFUSALS", Check.refusals(egg), "0 0 0 0 0");
    }
  }

  static void promise51_whatItTells() {
    TwoThirdsOfAnEgg egg = kitchen();
    int[] due = {2, 8, 7, 2, 1, 13, 6, 2, 500, 50, 2, 0, 0, 0, 0, 0, 0, 2, 1, -9, 1, 2, 3};
    for (int what = 0; what < due.length; what++) {
      due("count(" + what + ")", egg.count(what), due[what]);
    }
  }

  static void promise51_allThatCanBe() {
    TwoThirdsOfAnEgg egg = told(EIGHT_PARTS, "p0111;".substring(6) + FIVE_TINS,
        "s01111;s02111;s10111;s12111;s20111;s21111;");
    for (int i = 0; i < 9; i++) {
      egg.house(i, 99);
      egg.guests(24);
      egg.row(99);
      egg.weight(40);
      egg.dish(0, 0, 0, 0, 0);
    }
    int[] due = {8, 6, 24, 5, 6, 8 * 99, 0, 8, 120, 30, 5};
    for (int what = 0; what < due.length; what++) {
      due("count(" + what + ")", egg.count(what), due[what]);
    }
    due("count(17)", egg.count(17), 8);
    due("count(18)", egg.count(18), 4);
  }

  /** One more of each where there is no such PART, no room: -5 is told by none. */
  static void promise51_refusalsMinus1ToMinus6() {
    TwoThirdsOfAnEgg egg = fresh();
    for (int i = 1; i <= 6; i++) {
      egg.part(0, 0);
      egg.share(0, 1, 0);
      egg.read(3);
      egg.back();
      egg.guests(0);
      egg.guests(25);
      Check.due("REFUSALS", Check.refusals(egg), 2 * i + " " + i + " " + i + " " + i + " " + i);
      due("REFUSALS -5", egg.count(15), 0);
    }
  }

  static void promise51_minus9AndAFaultAreNoRefusals() {
    TwoThirdsOfAnEgg egg = told("p0111;");
    due("out(greatest)", egg.out(GREATEST), -9);
    due("tinFor()", egg.tinFor(), -9);
    due("stead(0)", egg.stead(0), -9);
    due("pours(1)", egg.pours(1), -9);
    due("steps(1, 1, 1)", egg.steps(1, 1, 1), -9);
    due("path(1, 0)", egg.path(1, 0), -9);
    due("mistake(0, 999)", egg.mistake(0, 999), -9);
    due("more(0, 999, 0)", egg.more(0, 999, 0), -9);
    due("weighed(1, 0)", egg.weighed(1, 0), -9);
    due("pair()", egg.pair(), -9);
    due("book()", egg.book(), -1000);
    Check.due("REFUSALS", Check.refusals(egg), "0 0 0 0 0");
  }
}
