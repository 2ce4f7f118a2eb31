/** What the tests share: an answer is compared with the one that is due, and the wrong ones are told. */
final class Check {
  /** What a refused call answers that answers a long. */
  static final long NOBODY = 4000000000000000001L;
  static final long OTHER = 4000000000000000002L;
  static final long BELOW = 4000000000000000004L;
  static final long ROOM = 4000000000000000006L;

  private static int answers = 0;
  private static int wrong = 0;
  private static String test = "";

  private Check() {
  }

  /** What comes then is told under this name, if it is wrong. */
  static void begin(String name) {
    test = name + ": ";
  }

  static void due(String what, long got, long want) {
    due(what, Long.toString(got), Long.toString(want));
  }

  static void due(String what, String got, String want) {
    answers++;
    if (!got.equals(want)) {
      wrong++;
      System.out.println(test + what + " answered " + got + ", due is " + want);
    }
  }

  /** Feeds the letters and answers what book() does. */
  static int tell(TwoThirdsOfAnEgg egg, String letters) {
    for (int i = 0; i < letters.length(); i++) {
      egg.feed(letters.charAt(i));
    }
    return egg.book();
  }

  /** A new object that has been told a BOOK without FAULT; a BOOK too long for 96 letters comes by halves. */
  static TwoThirdsOfAnEgg told(String... books) {
    TwoThirdsOfAnEgg egg = new TwoThirdsOfAnEgg();
    for (String letters : books) {
      due("the book " + letters, tell(egg, letters), letters.chars().filter(sign -> sign == ';').count());
    }
    return egg;
  }

  static void row(TwoThirdsOfAnEgg egg, int... numbers) {
    egg.clear();
    for (int number : numbers) {
      egg.row(number);
    }
  }

  /** The counts of the REFUSALS -1, -2, -3, -4 and -6, one behind the other. */
  static String refusals(TwoThirdsOfAnEgg egg) {
    return egg.count(11) + " " + egg.count(12) + " " + egg.count(13) + " " + egg.count(14) + " " + egg.count(16);
  }

  /** All that count() and the calls that only look tell of an object, but letters, ROW and REFUSALS. */
  static String all(TwoThirdsOfAnEgg egg) {
    StringBuilder text = new StringBuilder();
    for (int what : new int[] {0, 1, 2, 3, 4, 5, 8, 9, 10, 18, 20, 21, 22}) {
      text.append(egg.count(what)).append(' ');
    }
    for (int part = 0; part < egg.count(0); part++) {
      for (int what = 0; what <= 6; what++) {
        text.append(egg.part(part, what)).append(' ');
      }
      // What was is put back at once: so PRICE and ALSO are looked at.
      int price = egg.price(part, 0);
      egg.price(part, price);
      int also = egg.also(part, 0);
      egg.also(part, also);
      text.append(price).append(' ').append(also).append(' ');
    }
    for (int tin = 0; tin < egg.count(3); tin++) {
      text.append(egg.tin(tin, 0)).append(' ').append(egg.tin(tin, 1)).append(' ');
    }
    for (int i = 0; i < egg.count(4); i++) {
      for (int what = 0; what <= 4; what++) {
        text.append(egg.standIn(i, what)).append(' ');
      }
    }
    text.append(egg.heavy()).append(' ').append(egg.usedUp(0)).append(' ').append(egg.usedUp(1));
    return text.toString();
  }

  /** Ends the test: with exit code 1, if an answer was wrong or there was none at all. */
  static void end(String test) {
    System.out.println(test + ": " + answers + " answers, " + wrong + " wrong");
    if (wrong > 0 || answers == 0) {
      System.exit(1);
    }
  }
}
