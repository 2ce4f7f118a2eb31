/** Promises 49 to 51: THE IMAGE, and what count() tells. */
public final class ImageTest {
  private ImageTest() {
  }

  public static void main(String[] args) {
    imageOfAll();
    anotherImage();
    whatItLeavesOut();
    linesComeAnew();
    counts();
    Check.end("ImageTest");
  }

  private static TwoThirdsOfAnEgg full() {
    TwoThirdsOfAnEgg egg = Check.told("f8;p3311;p3212;h0=3;h1=4;to9;tq8;s01123;c010203;");
    egg.guests(5);
    egg.set(0, 500);
    egg.set(1, 50);
    egg.price(0, 7);
    egg.also(1, 9);
    egg.weight(3);
    egg.weight(4);
    egg.dish(0, 1, 1, 1, 8);
    return egg;
  }

  private static void imageOfAll() {
    TwoThirdsOfAnEgg egg = full();
    Check.due("restore of none", egg.restore(), -3);
    String before = Check.all(egg);
    Check.due("image", egg.image(), 5);
    change(egg);
    Check.due("restore", egg.restore(), 5);
    Check.due("all is as it was", Check.all(egg), before);
    change(egg);
    Check.due("restore again", egg.restore(), 5);
    Check.due("all is as it was, again", Check.all(egg), before);
  }

  private static void anotherImage() {
    TwoThirdsOfAnEgg egg = full();
    egg.image();
    change(egg);
    String changed = Check.all(egg);
    Check.due("another image", egg.image(), 24);
    egg.guests(3);
    egg.house(0, 1);
    Check.due("restore of the other", egg.restore(), 24);
    Check.due("all is as it was then", Check.all(egg), changed);
  }

  private static void change(TwoThirdsOfAnEgg egg) {
    Check.due("a book", Check.tell(egg, "f9;p0111;h0=99;h1=98;h2=9;to30;s10111;c121110;"), 8);
    egg.guests(24);
    egg.set(0, 1);
    egg.set(1, 1);
    egg.price(0, 1);
    egg.also(1, 1);
    egg.price(2, 5);
    egg.weight(40);
    egg.dish(1, 1, 0, 1, 99);
  }

  private static void whatItLeavesOut() {
    TwoThirdsOfAnEgg egg = full();
    egg.row(1);
    egg.feed('f');
    egg.guests(0);
    egg.image();
    egg.row(2);
    egg.feed('6');
    egg.guests(0);
    egg.guests(7);
    egg.restore();
    Check.due("the ROW stays", egg.count(7), 2);
    Check.due("letters stay", egg.count(6), 2);
    Check.due("REFUSALS stay", egg.count(14), 2);
    Check.due("GUESTS that can be taken BACK are none", egg.count(17), 0);
    egg.feed(';');
    Check.due("the letters are a BOOK", egg.book(), 1);
    Check.due("the image of a new object", new TwoThirdsOfAnEgg().image(), 4);
  }

  /** A PART, a DISH, a WEIGHT that came where one was that is no more has nothing of it. */
  private static void linesComeAnew() {
    TwoThirdsOfAnEgg egg = new TwoThirdsOfAnEgg();
    egg.image();
    Check.tell(egg, "p3311;h0=9;");
    egg.price(0, 9);
    egg.also(0, 9);
    egg.weight(7);
    egg.dish(0, 1, 0, 1, 50);
    egg.restore();
    Check.due("PARTS", egg.count(0), 0);
    Check.due("heavy", egg.heavy(), 0);
    Check.due("usedUp", egg.usedUp(0), 0);
    Check.tell(egg, "p0112;");
    Check.due("HOUSE", egg.part(0, 4), 0);
    Check.due("PRICE", egg.price(0, 1), 0);
    Check.due("ALSO", egg.also(0, 1), 0);
    Check.due("weight", egg.weight(2), 1);
    Check.due("dish", egg.dish(0, 0, 0, 0, 1), 0);
    Check.due("usedUp then", egg.usedUp(0), 1);
  }

  private static void counts() {
    TwoThirdsOfAnEgg egg = full();
    egg.row(1);
    egg.feed(1);
    egg.feed(2);
    int[] due = {2, 8, 5, 2, 1, 7, 2, 1, 500, 50, 2, 0, 0, 0, 0, 0, 0, 1, 1, -9, 1, 2, 3, -9};
    for (int what = 0; what < due.length; what++) {
      Check.due("count(" + what + ")", egg.count(what), due[what]);
    }
    Check.due("count(-1)", egg.count(-1), -9);
    Check.due("count(least)", egg.count(Integer.MIN_VALUE), -9);
    Check.due("count(greatest)", egg.count(Integer.MAX_VALUE), -9);
    Check.due("no REFUSALS by count()", Check.refusals(egg), "0 0 0 0 0");
  }
}
