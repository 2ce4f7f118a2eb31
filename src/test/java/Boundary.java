/**
 * What the boundary tests share. Each of their methods holds to one sentence of the document that
 * names a boundary case, and bears the number of its promise: BoundariesTest runs them all.
 */
abstract class Boundary {
  static final int LEAST = Integer.MIN_VALUE;
  static final int GREATEST = Integer.MAX_VALUE;
  static final String EIGHT_PARTS = "p0111;p0111;p0111;p0111;p0111;p0111;p0111;p0111;";
  /** Eight PARTS that can be OFF by most. */
  static final String EIGHT_GREATEST = "f1;" + "p41999;".repeat(8);
  static final String FIVE_TINS = "to1;to2;to3;to4;to5;";
  private static final long LONGS = 4000000000000000000L;
  private static final int[] REFUSALS = {-1, -2, -3, -4, -5, -6};

  /** A call whose answer is looked at. */
  interface Call {
    long on(TwoThirdsOfAnEgg egg);
  }

  /** A call that is told a number: of a PART, a TIN, what .. */
  interface CallOf {
    long on(TwoThirdsOfAnEgg egg, int number);
  }

  /** How an object is made that is looked at: each time just so. */
  interface Setting {
    TwoThirdsOfAnEgg made();
  }

  static void due(String what, long got, long want) {
    Check.due(what, got, want);
  }

  static TwoThirdsOfAnEgg fresh() {
    return new TwoThirdsOfAnEgg();
  }

  static TwoThirdsOfAnEgg told(String... books) {
    return Check.told(books);
  }

  /** An object that has been told a BOOK, with so many GUESTS. */
  static TwoThirdsOfAnEgg toldFor(int guests, String... books) {
    TwoThirdsOfAnEgg egg = Check.told(books);
    egg.guests(guests);
    return egg;
  }

  static void feedAll(TwoThirdsOfAnEgg egg, String letters) {
    for (int i = 0; i < letters.length(); i++) {
      egg.feed(letters.charAt(i));
    }
  }

  static TwoThirdsOfAnEgg withRow(int... numbers) {
    TwoThirdsOfAnEgg egg = fresh();
    Check.row(egg, numbers);
    return egg;
  }

  static TwoThirdsOfAnEgg withWeights(int... ounces) {
    TwoThirdsOfAnEgg egg = fresh();
    for (int weight : ounces) {
      egg.weight(weight);
    }
    return egg;
  }

  /** Something of everything, two PARTS, two TINS and a STAND-IN; two in the ROW, an image of what was. */
  static TwoThirdsOfAnEgg kitchen() {
    TwoThirdsOfAnEgg egg = told("f8;p3313;p0212;h0=3;h1=4;to9;tq8;s01123;c010203;");
    egg.image();
    egg.guests(5);
    egg.guests(7);
    egg.house(0, 9);
    egg.set(0, 500);
    egg.set(1, 50);
    egg.price(0, 7);
    egg.also(1, 9);
    egg.weight(3);
    egg.weight(4);
    egg.dish(0, 1, 1, 1, 8);
    egg.row(20);
    egg.row(30);
    feedAll(egg, "p0117;");
    return egg;
  }

  /** The call is refused so, the REFUSAL is counted once, and all else is as without the call. */
  static void refused(int number, Call call) {
    refused(number, Boundary::kitchen, call);
  }

  static void refused(int number, Setting setting, Call call) {
    refusedWith(number, number, setting, call);
  }

  /** Of a call that answers a long. */
  static void refusedLong(int number, Call call) {
    refusedWith(LONGS - number, number, Boundary::kitchen, call);
  }

  /** A PART, TIN, CUP .. that is not there, of which there are so many: refused ahead of all else. */
  static void nobody(int many, CallOf call) {
    for (int none : new int[] {-1, many, LEAST, GREATEST}) {
      refused(-1, egg -> call.on(egg, none));
    }
  }

  static void nobodyLong(int many, CallOf call) {
    for (int none : new int[] {-1, many, LEAST, GREATEST}) {
      refusedLong(-1, egg -> call.on(egg, none));
    }
  }

  /** A what behind the last, and one ahead of 0. */
  static void noChoice(int last, CallOf call) {
    for (int what : new int[] {-1, last + 1, LEAST, GREATEST}) {
      refused(-2, egg -> call.on(egg, what));
    }
  }

  static void noChoiceLong(int last, CallOf call) {
    for (int what : new int[] {-1, last + 1, LEAST, GREATEST}) {
      refusedLong(-2, egg -> call.on(egg, what));
    }
  }

  private static void refusedWith(long answer, int number, Setting setting, Call call) {
    TwoThirdsOfAnEgg egg = setting.made();
    TwoThirdsOfAnEgg without = setting.made();
    due("the refused call", call.on(egg), answer);
    for (int refusal : REFUSALS) {
      int more = refusal == number ? 1 : 0;
      due("how many REFUSALS " + refusal, egg.count(10 - refusal), without.count(10 - refusal) + more);
    }
    Check.due("all behind the refused call", everything(egg), everything(without));
  }

  /** All that an object can tell but its REFUSALS, down to its last letter; it is another one then. */
  static String everything(TwoThirdsOfAnEgg egg) {
    StringBuilder text = new StringBuilder(Check.all(egg));
    text.append(" letters ").append(egg.count(6)).append(" ROW ").append(egg.count(7));
    text.append(' ').append(egg.oven(1, 0)).append(' ').append(egg.oven(3, 2)).append(' ').append(egg.fair(0));
    text.append(' ').append(egg.clear()).append(" BACK ").append(egg.count(17));
    for (int i = 0; i < 9; i++) {
      text.append(' ').append(egg.back());
    }
    text.append(" BOOK ").append(egg.book()).append(' ').append(Check.all(egg));
    text.append(" IMAGE ").append(egg.restore()).append(' ').append(Check.all(egg));
    return text.toString();
  }

  /** The BOOK comes: so many STATEMENTS. */
  static TwoThirdsOfAnEgg comes(String letters) {
    return told(letters);
  }

  /** Behind what was told ahead, the BOOK has this FAULT: nothing of it comes, nothing is counted. */
  static void fault(int fault, String letters, String... ahead) {
    TwoThirdsOfAnEgg egg = told(ahead);
    TwoThirdsOfAnEgg without = told(ahead);
    due("the book " + letters, Check.tell(egg, letters), fault);
    Check.due("REFUSALS", Check.refusals(egg), "0 0 0 0 0");
    Check.due("all behind the FAULT", everything(egg), everything(without));
  }
}
