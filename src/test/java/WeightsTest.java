/** Promises 36 to 38 and 40 to 43: WEIGHTS, two recipes, what goes with what, what was forgotten. */
public final class WeightsTest {
  private WeightsTest() {
  }

  public static void main(String[] args) {
    weights();
    weighed();
    heavy();
    recipes();
    needed();
    forgotten();
    Check.end("WeightsTest");
  }

  private static TwoThirdsOfAnEgg withWeights(int... ounces) {
    TwoThirdsOfAnEgg egg = new TwoThirdsOfAnEgg();
    for (int weight : ounces) {
      egg.weight(weight);
    }
    return egg;
  }

  private static void weights() {
    TwoThirdsOfAnEgg egg = new TwoThirdsOfAnEgg();
    int[] ounces = {1, 40, 40, 1, 7};
    for (int i = 0; i < ounces.length; i++) {
      Check.due("weight(" + ounces[i] + ")", egg.weight(ounces[i]), i + 1);
    }
    Check.due("weight 6", egg.weight(1), -6);
    Check.due("WEIGHTS", egg.count(10), 5);
  }

  private static void weighedDue(TwoThirdsOfAnEgg egg, int n, int many, int how) {
    Check.due("weighed(" + n + ", 0)", egg.weighed(n, 0), many);
    Check.due("weighed(" + n + ", 1)", egg.weighed(n, 1), how);
  }

  private static void weighed() {
    weighedDue(new TwoThirdsOfAnEgg(), 1, -9, -9);
    TwoThirdsOfAnEgg egg = withWeights(1, 3, 9);
    weighedDue(egg, 1, 1, 1);
    weighedDue(egg, 2, 2, 2 + 32);
    weighedDue(egg, 5, 3, 4 + 32 * 3);
    weighedDue(egg, 13, 3, 7);
    weighedDue(egg, 14, -9, -9);
    weighedDue(egg, 200, -9, -9);
    weighedDue(withWeights(2, 2), 2, 1, 1);
    weighedDue(withWeights(2, 2), 4, 2, 3);
    weighedDue(withWeights(1, 2, 3), 3, 1, 4);
    weighedDue(withWeights(3, 1, 5, 7), 2, 2, 4 + 32);
    weighedDue(withWeights(3, 1, 4, 2), 2, 1, 8);
    weighedDue(withWeights(40, 40, 40, 40, 40), 200, 5, 31);
    weighedDue(withWeights(1, 2, 4, 8, 40), 25, 5, 16 + 32 * 15);
  }

  private static void heavy() {
    Check.due("heavy of none", new TwoThirdsOfAnEgg().heavy(), 0);
    Check.due("heavy of 1 and 3", withWeights(1, 3).heavy(), 4);
    Check.due("heavy of two alike", withWeights(5, 5).heavy(), 2);
    Check.due("heavy of five of 40", withWeights(40, 40, 40, 40, 40).heavy(), 5);
    Check.due("heavy of 1 3 9 27 40", withWeights(1, 3, 9, 27, 40).heavy(), 80);
    Check.due("heavy of 39 and 40", withWeights(39, 40).heavy(), 4);
  }

  private static void recipesDue(TwoThirdsOfAnEgg egg, int x, int y) {
    Check.due("recipes(0)", egg.recipes(0), x);
    Check.due("recipes(1)", egg.recipes(1), y);
  }

  private static void recipes() {
    recipesDue(new TwoThirdsOfAnEgg(), 24, 24);
    TwoThirdsOfAnEgg egg = Check.told("f6;p0112;p0113;h0=4;h1=9;");
    Check.due("also(0, 3)", egg.also(0, 3), 0);
    Check.due("also(1, 1)", egg.also(1, 1), 0);
    recipesDue(egg, 12, 0);
    Check.due("also(0, 1)", egg.also(0, 1), 3);
    recipesDue(egg, 0, 24);
    egg.also(0, 2);
    recipesDue(egg, 12, 0);
    egg.house(1, 2);
    recipesDue(egg, 0, 12);
    egg.house(0, 0);
    recipesDue(egg, 0, 0);
    egg.also(0, 0);
    recipesDue(egg, 0, 12);
    Check.tell(egg, "f3;");
    recipesDue(egg, 0, 6);
    Check.due("also(1, 99)", egg.also(1, 99), 1);
    Check.due("also(1, 0)", egg.also(1, 0), 99);
  }

  private static void needed() {
    TwoThirdsOfAnEgg egg = Check.told("p0113;p4112;p01124;p0111;");
    int[][] rows = {{0, 5, 1, 40}, {0, 1, 1, 8}, {2, 1, 3, 0}, {2, 3, 3, 1}, {2, 4, 3, 2}, {0, 0, 1, 0}, {0, 7, 0, -1},
        {3, 99, 2, 28512}, {1, 1, 0, 18}, {2, 5, 3, 2}, {0, 1, 3, 4}};
    for (int[] row : rows) {
      String what = "needed(" + row[0] + ", " + row[1] + ", " + row[2] + ")";
      Check.due(what, egg.needed(row[0], row[1], row[2]), row[3]);
    }
  }

  private static void forgotten() {
    Check.due("forgotten of none", new TwoThirdsOfAnEgg().forgotten(), -9);
    Check.due("without COST", Check.told("p0109;p1103;").forgotten(), -9);
    Check.due("of several the least", Check.told("p0109;p0123;p0132;").forgotten(), 1);
    Check.due("the last", Check.told("p0109;p0123;p4133;").forgotten(), 2);
    Check.due("the first", Check.told("p0111;p0101;").forgotten(), 0);
  }
}
