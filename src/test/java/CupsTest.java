/** Promises 20 to 22 and 45: CUPS, POURS, STEPS, PATH. */
public final class CupsTest {
  private CupsTest() {
  }

  public static void main(String[] args) {
    cups();
    pours();
    steps();
    paths();
    Check.end("CupsTest");
  }

  private static void cups() {
    TwoThirdsOfAnEgg egg = Check.told("c010203;");
    Check.due("cup(0, 12)", egg.cup(0, 12), 1);
    Check.due("cup(1, 0)", egg.cup(1, 0), 2);
    Check.due("cup(2, 5)", egg.cup(2, 5), 3);
    Check.due("cup(2, 6)", egg.cup(2, 6), 5);
    Check.due("CUPS", egg.count(20) * 10000 + egg.count(21) * 100 + egg.count(22), 120006);
  }

  /** Cups of 5 and 3 ounces: 1 comes by two times 3 less 5, 2 by 5 less 3, 4 by two times 5 less two times 3. */
  private static void pours() {
    TwoThirdsOfAnEgg egg = Check.told("c050300;");
    int[] due = {4, 2, 1, 6, 1, -9, -9, -9, -9, -9, -9, -9};
    for (int n = 1; n <= 12; n++) {
      Check.due("pours(" + n + ") of 5 and 3", egg.pours(n), due[n - 1]);
    }
    egg.cup(0, 7);
    Check.due("pours(4) of 7 and 3", egg.pours(4), 2);
    Check.due("pours(5) of 7 and 3", egg.pours(5), 8);
    egg.cup(1, 0);
    Check.due("pours(4) of 7", egg.pours(4), -9);
    TwoThirdsOfAnEgg even = Check.told("c080406;");
    Check.due("even ounces", even.pours(2), 2);
    Check.due("odd ounces", even.pours(3), -9);
    Check.due("in one", Check.told("c120807;").pours(12), 1);
    Check.due("a third cup shortens it", Check.told("c050304;").pours(4), 1);
    Check.due("8 5 3: 6", Check.told("c080503;").pours(6), 4);
    Check.due("no cups", new TwoThirdsOfAnEgg().pours(12), -9);
  }

  private static void steps() {
    TwoThirdsOfAnEgg egg = Check.told("c050300;");
    int[][] rows = {{0, 0, 0, 0}, {5, 0, 0, 1}, {5, 3, 0, 2}, {2, 3, 0, 2}, {2, 0, 0, 3}, {4, 3, 0, 6}, {4, 0, 0, 7},
        {1, 1, 0, -9}, {0, 0, 1, -9}, {6, 0, 0, -9}, {12, 12, 12, -9}, {0, 1, 0, 5}, {5, 1, 0, 4}};
    for (int[] row : rows) {
      String what = "steps(" + row[0] + ", " + row[1] + ", " + row[2] + ")";
      Check.due(what, egg.steps(row[0], row[1], row[2]), row[3]);
    }
    TwoThirdsOfAnEgg three = Check.told("c080503;");
    Check.due("3, 5, 0", three.steps(3, 5, 0), 2);
    Check.due("5, 0, 3", three.steps(5, 0, 3), 2);
    Check.due("all full", three.steps(8, 5, 3), 3);
    Check.due("the last alone", three.steps(0, 0, 3), 1);
  }

  private static void paths() {
    // filled, poured into CUP 1, that emptied, poured into it, filled, poured into it
    pathDue("c050300;", 4, 100, 310, 201, 310, 100, 310);
    pathDue("c030500;", 4, 101, 301, 200, 301, 101, 301);
    pathDue("c000503;", 4, 101, 321, 202, 321, 101, 321);
    pathDue("c000305;", 4, 102, 312, 201, 312, 102, 312);
    pathDue("c030005;", 4, 102, 302, 200, 302, 102, 302);
    pathDue("c050003;", 4, 100, 320, 202, 320, 100, 320);
    pathDue("c050305;", 2, 100, 310);
    pathDue("c030505;", 2, 101, 301);
    pathDue("c030303;", 3, 100);
    pathDue("c000303;", 3, 101);
    pathDue("c050303;", 2, 100, 310);
    pathDue("c050300;", 6);
    pathDue("c000012;", 12, 102);
    pathDue("c070512;", 12, 102);
    pathDue("c050503;", 1, 102, 302, 102, 302);
  }

  private static void pathDue(String cups, int n, int... steps) {
    TwoThirdsOfAnEgg egg = Check.told(cups);
    for (int i = 0; i < steps.length; i++) {
      Check.due(cups + " path(" + n + ", " + i + ")", egg.path(n, i), steps[i]);
    }
    Check.due(cups + " path behind the last", egg.path(n, steps.length), -9);
    Check.due(cups + " path far behind", egg.path(n, Integer.MAX_VALUE), -9);
    Check.due(cups + " pours", egg.pours(n), steps.length == 0 ? -9 : steps.length);
  }
}
