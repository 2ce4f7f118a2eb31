/** Promises 17 to 19, 33 to 35, 46 and 47: what lacks, STAND-INS, PRICES, DISHES. */
public final class StoresTest {
  private StoresTest() {
  }

  public static void main(String[] args) {
    lacks();
    standIns();
    stead();
    steadOfMany();
    buy();
    cheapest();
    usedUp();
    Check.end("StoresTest");
  }

  private static void lacks() {
    TwoThirdsOfAnEgg egg = Check.told("f6;p0113;p1113;p4119;h0=2;h1=1;h2=9;");
    Check.due("lacks", egg.lacks(), 2);
    egg.guests(5);
    Check.due("lacks for 5", egg.lacks(), 3);
    egg.house(2, 8);
    Check.due("lacks all", egg.lacks(), 7);
    TwoThirdsOfAnEgg many = Check.told("f4;p11199;p11199;h0=99;h1=98;");
    Check.due("one of 99 lacks", many.lacks(), 2);
    Check.due("enough but for one of 99", many.enough(), 3);
    Check.due("lacks without PARTS", new TwoThirdsOfAnEgg().lacks(), 0);
  }

  private static void standIns() {
    TwoThirdsOfAnEgg egg = Check.told("p0111;p0111;s01987;s10120;");
    int[][] due = {{0, 1, 9, 8, 7}, {1, 0, 1, 2, 0}};
    for (int i = 0; i < due.length; i++) {
      for (int what = 0; what < 5; what++) {
        Check.due("standIn(" + i + ", " + what + ")", egg.standIn(i, what), due[i][what]);
      }
    }
  }

  private static void stead() {
    TwoThirdsOfAnEgg egg = Check.told("f6;p1116;p1116;p1111;h0=1;h1=10;h2=5;s01215;s02421;");
    Check.due("the least LOSS together", egg.stead(0), 6);
    egg.house(2, 4);
    Check.due("one kind alone", egg.stead(0), 15);
    egg.house(1, 9);
    Check.due("not often enough", egg.stead(0), -9);
    egg.house(0, 2);
    Check.due("less lacks", egg.stead(0), 10);
    egg.house(0, 4);
    Check.due("nothing lacks", egg.stead(0), 0);
    Check.due("no STAND-IN for it", egg.stead(2), 0);
    egg.house(2, 0);
    Check.due("no STAND-IN for what lacks", egg.stead(2), -9);
    egg.house(1, 2);
    egg.house(0, 3);
    Check.due("the other lacks itself", egg.stead(0), -9);
    TwoThirdsOfAnEgg parts = Check.told("f6;p0115;p0112;h0=3;h1=2;s01112;");
    Check.due("what is TAKEN of the other is rounded up", parts.stead(0), -9);
    parts.house(1, 3);
    Check.due("what lacks is rounded up", parts.stead(0), 2);
    TwoThirdsOfAnEgg all = Check.told("f4;p1115;p11160;h0=4;h1=60;s01111;");
    Check.due("all 60 of the other are TAKEN", all.stead(0), -9);
    all.house(1, 61);
    Check.due("one of 61 is not", all.stead(0), 1);
  }

  private static void steadOfMany() {
    TwoThirdsOfAnEgg egg = Check.told("f1;p11150;p4111;h1=99;s01193;");
    egg.guests(2);
    Check.due("100 lack", egg.stead(0), -9);
    egg.house(0, 1);
    Check.due("99 lack", egg.stead(0), 33);
    egg.house(1, 11);
    Check.due("ten times are too few", egg.stead(0), -9);
    egg.house(1, 12);
    Check.due("eleven times are enough", egg.stead(0), 33);
    TwoThirdsOfAnEgg one = Check.told("f1;p11198;p4111;p4111;h1=99;h2=99;s01119;s02110;");
    one.guests(1);
    Check.due("98 times, the cheap one alone", one.stead(0), 0);
    one.house(2, 50);
    Check.due("49 times each", one.stead(0), 9 * 49);
    one.house(2, 1);
    Check.due("98 times, the dear one alone", one.stead(0), 9 * 98);
    one.house(1, 98);
    Check.due("97 times", one.stead(0), -9);
  }

  private static void buy() {
    TwoThirdsOfAnEgg egg = Check.told("f6;p3217;h0=3;p0114;p1113;h2=1;p4119;");
    Check.due("price(0, 10)", egg.price(0, 10), 0);
    Check.due("price(0, 99)", egg.price(0, 99), 10);
    Check.due("price(0, 10)", egg.price(0, 10), 99);
    Check.due("buy(6): packets", egg.buy(6), 60);
    Check.due("buy(1)", egg.buy(1), 0);
    egg.price(1, 7);
    Check.due("buy(4): rounded up", egg.buy(4), 40 + 3 * 7);
    Check.due("buy(3)", egg.buy(3), 20 + 2 * 7);
    egg.price(2, 99);
    Check.due("buy(6) of three", egg.buy(6), 60 + 4 * 7 + 2 * 99);
    egg.price(3, 1);
    Check.due("buy(1) LOOSE", egg.buy(1), 7 + 9);
    Check.due("buy(24)", egg.buy(24), 260 + 16 * 7 + 11 * 99 + 9);
    TwoThirdsOfAnEgg stored = Check.told("p0111;p0111;h0=99;");
    stored.price(0, 9);
    stored.price(1, 5);
    Check.due("what is there brings no pence", stored.buy(6), 5);
    Check.due("buy without PARTS", new TwoThirdsOfAnEgg().buy(24), 0);
  }

  private static void cheapest() {
    TwoThirdsOfAnEgg egg = Check.told("f6;p1116;h0=2;");
    egg.price(0, 5);
    Check.due("nothing lacks", egg.cheapest(1, 24), 1);
    Check.due("the least for each", egg.cheapest(3, 24), 3);
    TwoThirdsOfAnEgg packets = Check.told("f6;p3616;");
    packets.price(0, 5);
    Check.due("a whole packet", packets.cheapest(1, 24), 6);
    Check.due("two whole packets", packets.cheapest(7, 24), 12);
    Check.due("as near to them as can be", packets.cheapest(7, 11), 11);
    Check.due("the last of two", packets.cheapest(11, 12), 12);
    Check.due("one alone", packets.cheapest(7, 7), 7);
    Check.due("cheapest without PARTS", new TwoThirdsOfAnEgg().cheapest(5, 24), 5);
  }

  private static void usedUp() {
    TwoThirdsOfAnEgg egg = Check.told("f6;p3311;p3211;p1116;");
    Check.due("no DISHES, WORTH", egg.usedUp(0), 0);
    Check.due("no DISHES, set", egg.usedUp(1), 0);
    Check.due("dish 0", egg.dish(0, 20, 1, 10, 5), 0);
    Check.due("dish 1", egg.dish(0, 8, 1, 6, 3), 1);
    Check.due("dish 2", egg.dish(0, 10, 1, 4, 4), 2);
    Check.due("dish 3", egg.dish(1, 16, 1, 1, 99), 3);
    Check.due("dish 4", egg.dish(0, 0, 0, 0, 0), -6);
    Check.due("DISHES", egg.count(18), 4);
    Check.due("WORTH", egg.usedUp(0), 8);
    Check.due("set", egg.usedUp(1), 3);
    egg.guests(6);
    Check.due("WORTH for 6", egg.usedUp(0), 7);
    Check.due("set for 6", egg.usedUp(1), 6);
    TwoThirdsOfAnEgg alike = Check.told("f6;p3311;p1116;");
    alike.dish(0, 0, 0, 0, 0);
    alike.dish(0, 10, 0, 10, 9);
    alike.dish(0, 9, 0, 0, 4);
    alike.dish(0, 9, 1, 0, 5);
    Check.due("WORTH of two like one", alike.usedUp(0), 9);
    Check.due("the least bits", alike.usedUp(1), 2);
    TwoThirdsOfAnEgg twice = Check.told("f6;p3211;");
    twice.dish(0, 8, 0, 8, 1);
    Check.due("just what is LEFT", twice.usedUp(1), 1);
    twice.dish(0, 8, 0, 9, 99);
    Check.due("a twelfth too much", twice.usedUp(1), 1);
    TwoThirdsOfAnEgg dear = Check.told("f6;p3311;p3211;");
    dear.dish(0, 28, 1, 1, 99);
    dear.dish(0, 1, 1, 16, 0);
    Check.due("much WORTH, little taken", dear.usedUp(0), 99);
    Check.due("no WORTH is not taken", dear.usedUp(1), 1);
    TwoThirdsOfAnEgg none = Check.told("f6;p1116;p3311;");
    none.dish(1, 5, 0, 1, 9);
    Check.due("of the other nothing is LEFT", none.usedUp(1), 0);
  }
}
