/** The boundary cases of promises 1 to 3: a new object, letters, BOOKS. */
final class Boundaries01To03 extends Boundary {
  private Boundaries01To03() {
  }

  // Promise 1

  static void promise01_forSixFourGuestsNoPartsAtFirst() {
    due("FOR", fresh().count(1), 6);
    due("GUESTS", fresh().count(2), 4);
    due("PARTS", fresh().count(0), 0);
    due("part(0, 0)", fresh().part(0, 0), -1);
  }

  static void promise01_volume120Time30AtFirst() {
    due("VOLUME", fresh().count(8), 120);
    due("TIME", fresh().count(9), 30);
  }

  static void promise01_cupsOf0EachAtFirst() {
    for (int cup = 0; cup < 3; cup++) {
      due("CUP " + cup, fresh().count(20 + cup), 0);
    }
  }

  static void promise01_nothingElseAtFirst() {
    for (int what : new int[] {3, 4, 5, 6, 7, 10, 11, 12, 13, 14, 15, 16, 17, 18}) {
      due("count(" + what + ")", fresh().count(what), 0);
    }
    due("an image", fresh().restore(), -3);
  }

  static void promise01_oneObjectHasNothingOfAnother() {
    TwoThirdsOfAnEgg one = fresh();
    String before = everything(fresh());
    everything(kitchen());
    Check.due("all of it", everything(one), before);
  }

  // Promise 2

  static void promise02_letters0And255Come() {
    TwoThirdsOfAnEgg egg = fresh();
    due("feed(0)", egg.feed(0), 1);
    due("feed(255)", egg.feed(255), 2);
    due("letters", egg.count(6), 2);
  }

  static void promise02_aLetterBelow0IsRefused() {
    refused(-4, egg -> egg.feed(-1));
    refused(-4, egg -> egg.feed(LEAST));
  }

  static void promise02_aLetterAbove255IsRefused() {
    refused(-6, egg -> egg.feed(256));
    refused(-6, egg -> egg.feed(GREATEST));
  }

  private static TwoThirdsOfAnEgg full() {
    TwoThirdsOfAnEgg egg = fresh();
    for (int i = 0; i < 32; i++) {
      feedAll(egg, "f7;");
    }
    return egg;
  }

  static void promise02_the96thComes() {
    TwoThirdsOfAnEgg egg = fresh();
    for (int i = 1; i <= 96; i++) {
      due("feed " + i, egg.feed('f'), i);
    }
    due("letters", egg.count(6), 96);
  }

  static void promise02_the97thIsRefused() {
    refused(-6, Boundaries01To03::full, egg -> egg.feed(';'));
    refused(-6, Boundaries01To03::full, egg -> egg.feed(256));
  }

  static void promise02_belowComesAheadOfNoRoom() {
    refused(-4, Boundaries01To03::full, egg -> egg.feed(-1));
  }

  static void promise02_behindABookThereIsRoomAgain() {
    TwoThirdsOfAnEgg egg = full();
    due("the BOOK", egg.book(), 32);
    due("feed('f')", egg.feed('f'), 1);
  }

  // Promise 3: kind 1 of FAULT

  static void promise03_noLetterIsNoBook() {
    fault(-1000, "");
    fault(-1000, "", "f8;");
  }

  static void promise03_aStatementOfNothingIsNone() {
    fault(-1000, ";");
    fault(-1003, "f7;;");
  }

  static void promise03_whatNoStatementBeginsWith() {
    for (String letters : new String[] {" ", "F6;", "0", "=", "o", "q", "a", "e", "g", "z", "\u0000", "\u00ff", "x6;"}) {
      fault(-1000, letters);
      fault(-1003, "f7;" + letters);
    }
  }

  /** All that is not at its end: the place is that of the end. */
  static void promise03_ifSomethingLacksThePlaceIsTheEnd() {
    String[] whole = {"f12;", "p01299;", "h0=12;", "to12;", "tq12;", "s01234;", "c010203;"};
    for (String letters : whole) {
      for (int end = 1; end < letters.length(); end++) {
        fault(-1000 - end, letters.substring(0, end));
        fault(-1003 - end, "f7;" + letters.substring(0, end));
      }
    }
    fault(-1002, "f7");
    fault(-1005, "p0129");
    fault(-1004, "h0=1");
    fault(-1003, "to1");
  }

  /** Each sign, put in another's place where only that can stand. */
  static void promise03_theFirstLetterWithWhichNoBookCanGoOn() {
    String[] whole = {"f12;", "p01299;", "h0=12;", "to12;", "tq12;", "s01234;", "c010203;"};
    for (String letters : whole) {
      for (int place = 1; place < letters.length(); place++) {
        for (String wrong : new String[] {"x", "/", ":", " ", "\u0000", "\u00ff"}) {
          fault(-1000 - place, letters.substring(0, place) + wrong + letters.substring(place + 1));
        }
      }
    }
  }

  static void promise03_oneOrTwoDigits() {
    TwoThirdsOfAnEgg egg = comes("f7;p0119;h0=5;to8;f07;p01109;h1=06;tq09;");
    due("FOR", egg.count(1), 7);
    due("AMOUNT of one digit", egg.part(0, 3), 9);
    due("AMOUNT of two", egg.part(1, 3), 9);
    due("HOUSE of one digit", egg.part(0, 4), 5);
    due("HOUSE of two", egg.part(1, 4), 6);
    due("SIZE of one digit", egg.tin(0, 1), 8);
    due("SIZE of two", egg.tin(1, 1), 9);
    fault(-1001, "f;");
    fault(-1003, "f012;");
    fault(-1004, "p011;");
    fault(-1006, "p011001;");
    fault(-1003, "h0=;", "p0111;");
    fault(-1005, "h0=001;", "p0111;");
    fault(-1002, "to;");
    fault(-1004, "tq001;");
  }

  static void promise03_aDigitEach() {
    fault(-1002, "h00=1;", "p0111;");
    fault(-1006, "s011111;", "p0111;p0111;");
    fault(-1005, "s0111;", "p0111;p0111;");
  }

  static void promise03_cupsOfTwoDigitsEach() {
    fault(-1001, "c;");
    fault(-1002, "c1;");
    fault(-1004, "c123;");
    fault(-1006, "c12345;");
    fault(-1007, "c0102030;");
  }

  static void promise03_aTinIsRoundOrSquare() {
    due("o", comes("to5;").tin(0, 0), 0);
    due("q", comes("tq5;").tin(0, 0), 1);
    for (String wrong : new String[] {"n", "p", "r", "O", "Q", "5", "s"}) {
      fault(-1001, "t" + wrong + "5;");
    }
  }

  static void promise03_kind1ComesAheadOfKind2() {
    fault(-1003, "f0;x");
    fault(-1007, "f0;p900;");
    fault(-1005, "f99;f");
  }

  // Promise 3: kind 2 of FAULT

  static void promise03_for1And24Come() {
    due("FOR 1", comes("f1;").count(1), 1);
    due("FOR 01", comes("f01;").count(1), 1);
    due("FOR 24", comes("f24;").count(1), 24);
  }

  static void promise03_for0And25AreOutOfRange() {
    for (String wrong : new String[] {"f0;", "f00;", "f25;", "f99;"}) {
      fault(-2000, wrong);
    }
  }

  static void promise03_kinds0And5Come() {
    TwoThirdsOfAnEgg egg = comes("p0111;p5111;");
    due("KIND 0", egg.part(0, 0), 0);
    due("KIND 5", egg.part(1, 0), 5);
  }

  static void promise03_kind6IsOutOfRange() {
    fault(-2000, "p6111;");
    fault(-2000, "p9111;");
  }

  static void promise03_steps1And9Come() {
    TwoThirdsOfAnEgg egg = comes("p0111;p0911;");
    due("STEP 1", egg.part(0, 1), 1);
    due("STEP 9", egg.part(1, 1), 9);
  }

  static void promise03_step0IsOutOfRange() {
    for (int kind = 0; kind <= 5; kind++) {
      fault(-2000, "p" + kind + "011;");
    }
  }

  static void promise03_costs0And9Come() {
    TwoThirdsOfAnEgg egg = comes("p0101;p0191;");
    due("COST 0", egg.part(0, 2), 0);
    due("COST 9", egg.part(1, 2), 9);
  }

  static void promise03_amounts1And99Come() {
    TwoThirdsOfAnEgg egg = comes("p0111;p01199;p01101;");
    due("AMOUNT 1", egg.part(0, 3), 1);
    due("AMOUNT 99", egg.part(1, 3), 99);
    due("AMOUNT 01", egg.part(2, 3), 1);
  }

  static void promise03_amount0IsOutOfRange() {
    fault(-2000, "p0110;");
    fault(-2000, "p01100;");
  }

  static void promise03_house0And99Come() {
    due("HOUSE 99", comes("p0111;h0=99;").part(0, 4), 99);
    due("HOUSE 0", comes("p0111;h0=99;h0=0;").part(0, 4), 0);
    due("HOUSE 00", comes("p0111;h0=99;h0=00;").part(0, 4), 0);
  }

  static void promise03_houseOfNoSuchPart() {
    fault(-2000, "h0=1;");
    fault(-2006, "p0111;h1=1;");
    fault(-2000, "h8=1;", EIGHT_PARTS);
    fault(-2000, "h9=1;", EIGHT_PARTS);
    due("of PART 7", told(EIGHT_PARTS, "h7=1;").part(7, 4), 1);
  }

  static void promise03_sizes1And30Come() {
    TwoThirdsOfAnEgg egg = comes("to1;tq30;");
    due("SIZE 1", egg.tin(0, 1), 1);
    due("SIZE 30", egg.tin(1, 1), 30);
  }

  static void promise03_sizes0And31AreOutOfRange() {
    for (String wrong : new String[] {"to0;", "tq00;", "to31;", "tq31;", "tq99;"}) {
      fault(-2000, wrong);
    }
  }

  static void promise03_standInOfNoSuchPart() {
    fault(-2000, "s01111;");
    fault(-2000, "s01111;", "p0111;");
    fault(-2000, "s10111;", "p0111;");
    fault(-2000, "s08111;", EIGHT_PARTS);
    fault(-2000, "s90111;", EIGHT_PARTS);
    due("of PARTS 7 and 6", told(EIGHT_PARTS, "s76111;").standIn(0, 0), 7);
  }

  static void promise03_standInOfOnePartTwice() {
    fault(-2000, "s00111;", "p0111;p0111;");
    fault(-2000, "s11111;", "p0111;p0111;");
  }

  static void promise03_standInThatIsThereAlready() {
    fault(-2007, "s01111;s01239;", "p0111;p0111;");
    fault(-2000, "s01239;", "p0111;p0111;s01111;");
    fault(-2014, "s01111;s10111;s10111;", "p0111;p0111;");
  }

  static void promise03_standInForThatPartOrOfThatOtherAlone() {
    due("STAND-INS", comes("p0111;p0111;p0111;s01111;s10111;s02111;s21111;").count(4), 4);
  }

  static void promise03_standIns1And9Come() {
    TwoThirdsOfAnEgg egg = comes("p0111;p0111;s01110;s10999;");
    due("a of 1", egg.standIn(0, 2), 1);
    due("b of 1", egg.standIn(0, 3), 1);
    due("LOSS of 0", egg.standIn(0, 4), 0);
    due("a of 9", egg.standIn(1, 2), 9);
    due("b of 9", egg.standIn(1, 3), 9);
    due("LOSS of 9", egg.standIn(1, 4), 9);
  }

  static void promise03_standInsOf0AreOutOfRange() {
    fault(-2000, "s01011;", "p0111;p0111;");
    fault(-2000, "s01101;", "p0111;p0111;");
  }

  static void promise03_cups0And12Come() {
    TwoThirdsOfAnEgg egg = comes("c001200;c120012;");
    due("CUP 0", egg.count(20), 12);
    due("CUP 1", egg.count(21), 0);
    due("CUP 2", egg.count(22), 12);
  }

  static void promise03_cups13AreOutOfRange() {
    fault(-2000, "c130000;", "c010203;");
    fault(-2000, "c001300;", "c010203;");
    fault(-2000, "c000013;", "c010203;");
    fault(-2000, "c999999;", "c010203;");
  }

  static void promise03_theEighthPartComesTheNinthHasNoRoom() {
    due("PARTS", told(EIGHT_PARTS).count(0), 8);
    fault(-2048, EIGHT_PARTS + "p0111;");
    fault(-2000, "p0111;", EIGHT_PARTS);
    fault(-2006, "p0111;p0111;", EIGHT_PARTS.substring(6));
  }

  static void promise03_theFifthTinComesTheSixthHasNoRoom() {
    due("TINS", told(FIVE_TINS).count(3), 5);
    fault(-2020, FIVE_TINS + "tq6;");
    fault(-2000, "tq6;", FIVE_TINS);
  }

  static void promise03_theSixthStandInComesTheSeventhHasNoRoom() {
    String[] ahead = {"p0111;p0111;p0111;p0111;", "s01111;s02111;s10111;s12111;s20111;s21111;"};
    due("STAND-INS", told(ahead).count(4), 6);
    fault(-2000, "s30111;", ahead);
    fault(-2007, "s21111;s30111;", ahead[0], ahead[1].substring(0, 35));
  }

  static void promise03_theFirstOfSeveralWrongStatements() {
    fault(-2003, "f7;f0;f0;");
    fault(-2003, "f7;to0;p0111;h9=9;");
  }

  static void promise03_behindAllAheadOfItInTheText() {
    TwoThirdsOfAnEgg egg = comes("p0111;p0111;h1=5;s10111;");
    due("HOUSE of a PART of this BOOK", egg.part(1, 4), 5);
    due("a STAND-IN for it", egg.standIn(0, 0), 1);
    fault(-2000, "h0=5;p0111;");
    fault(-2006, "p0111;s01111;p0111;");
  }

  // Promise 3: what becomes of a BOOK

  static void promise03_howManyStatements() {
    due("one", Check.tell(fresh(), "f7;"), 1);
    due("two", Check.tell(fresh(), "f7;f7;"), 2);
    due("one of each", Check.tell(fresh(), "f7;p0111;p0111;h0=1;to1;s01111;c000000;"), 7);
    due("thirty-two", Check.tell(fresh(), "f7;".repeat(32)), 32);
  }

  static void promise03_aBookOf96Letters() {
    TwoThirdsOfAnEgg egg = comes("f7;".repeat(31) + "f9;");
    due("the last STATEMENT of it", egg.count(1), 9);
    fault(-1096, "f7;".repeat(31) + "f12");
    fault(-2093, "f7;".repeat(31) + "f0;");
  }

  static void promise03_theLettersAreNoMoreThen() {
    TwoThirdsOfAnEgg egg = fresh();
    for (String letters : new String[] {"f7;", "f7", "f0;"}) {
      Check.tell(egg, letters);
      due("letters behind " + letters, egg.count(6), 0);
      due("a BOOK of none of them", egg.book(), -1000);
    }
  }

  static void promise03_withAFaultNothingComes() {
    String wrong = "f9;p0111;h0=8;h1=8;to5;s10111;c121212;";
    fault(-2038, wrong + "f0;", "f8;p3311;p0112;h0=3;to9;s01111;c010203;");
    fault(-1038, wrong + "x", "f8;p3311;p0112;h0=3;to9;s01111;c010203;");
  }

  static void promise03_guestsStay() {
    TwoThirdsOfAnEgg egg = toldFor(9, "f8;");
    due("the BOOK", Check.tell(egg, "f3;p0111;"), 2);
    due("GUESTS", egg.count(2), 9);
  }

  /** A PART of a BOOK with a FAULT leaves nothing to the one that comes in its place. */
  static void promise03_behindAFaultPartsComeAnew() {
    TwoThirdsOfAnEgg egg = fresh();
    due("the FAULT", Check.tell(egg, "p3999;h0=9;f0;"), -2011);
    due("the BOOK", Check.tell(egg, "p0111;"), 1);
    due("its HOUSE", egg.part(0, 4), 0);
  }
}
