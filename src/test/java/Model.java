import java.util.ArrayDeque;
import java.util.ArrayList;
import java.util.Arrays;
import java.util.LinkedHashMap;
import java.util.List;
import java.util.Map;
import java.util.TreeSet;
import java.util.function.IntPredicate;
import java.util.regex.Matcher;
import java.util.regex.Pattern;

/**
 * The document once more, written without a look at how the class does it: everything is sought by
 * trying, sums are fractions, BOOKS are read by patterns. RandomRunsTest holds both side by side.
 */
final class Model {
  /** A fraction in least terms; what is below the line is above nought. */
  record Fraction(long above, long below) implements Comparable<Fraction> {
    static Fraction of(long above, long below) {
      long sign = below < 0 ? -1 : 1;
      long divisor = Math.max(1, gcd(Math.abs(above), Math.abs(below)));
      return new Fraction(sign * above / divisor, sign * below / divisor);
    }

    private static long gcd(long a, long b) {
      return b == 0 ? a : gcd(b, a % b);
    }

    static Fraction of(long whole) {
      return of(whole, 1);
    }

    Fraction plus(Fraction other) {
      return of(above * other.below + other.above * below, below * other.below);
    }

    Fraction minus(Fraction other) {
      return plus(other.times(of(-1)));
    }

    Fraction times(Fraction other) {
      return of(above * other.above, below * other.below);
    }

    Fraction by(Fraction other) {
      return of(above * other.below, below * other.above);
    }

    Fraction distance(Fraction other) {
      Fraction apart = minus(other);
      return of(Math.abs(apart.above), apart.below);
    }

    long up() {
      return -Math.floorDiv(-above, below);
    }

    @Override
    public int compareTo(Fraction other) {
      return Long.compare(above * other.below, other.above * below);
    }
  }

  static final class Part {
    int kind;
    int step;
    int cost;
    int amount;
    int house;
    int price;
    int also;

    Part copy() {
      Part part = new Part();
      part.kind = kind;
      part.step = step;
      part.cost = cost;
      part.amount = amount;
      part.house = house;
      part.price = price;
      part.also = also;
      return part;
    }
  }

  /** What THE IMAGE keeps. */
  static final class All {
    int forMany = 6;
    int guests = 4;
    int volume = 120;
    int time = 30;
    List<Part> parts = new ArrayList<>();
    List<int[]> tins = new ArrayList<>();
    List<int[]> standIns = new ArrayList<>();
    int[] cups = new int[3];
    List<Integer> weights = new ArrayList<>();
    List<int[]> dishes = new ArrayList<>();

    All copy() {
      All all = new All();
      all.forMany = forMany;
      all.guests = guests;
      all.volume = volume;
      all.time = time;
      parts.forEach(part -> all.parts.add(part.copy()));
      all.tins.addAll(tins);
      all.standIns.addAll(standIns);
      all.cups = cups.clone();
      all.weights.addAll(weights);
      all.dishes.addAll(dishes);
      return all;
    }
  }

  private static final long LONGS = 4000000000000000000L;

  All now = new All();
  private All kept = null;
  private String letters = "";
  private List<Integer> row = new ArrayList<>();
  private final ArrayDeque<Integer> earlier = new ArrayDeque<>();
  private final int[] refusals = new int[7];

  private int no(int why) {
    refusals[-why]++;
    return why;
  }

  private long noLong(int why) {
    return LONGS - no(why);
  }

  private boolean isPart(int part) {
    return part >= 0 && part < now.parts.size();
  }

  // TAKEN, OFF, LEFT

  private Fraction shareOf(Part part, Fraction scale) {
    return Fraction.of(part.amount).times(scale);
  }

  private Fraction scaleFor(int g) {
    return Fraction.of(g, now.forMany);
  }

  /** Of the multiples of step that are no less than the least, the nearest, of two the less. */
  private static long nearestMultiple(Fraction goal, long step, long least) {
    long best = least;
    for (long multiple = least; multiple <= goal.up() + step; multiple += step) {
      if (Fraction.of(multiple).distance(goal).compareTo(Fraction.of(best).distance(goal)) < 0) {
        best = multiple;
      }
    }
    return best;
  }

  private long takenBy(Part part, Fraction scale) {
    Fraction twelfths = shareOf(part, scale).times(Fraction.of(12));
    switch (part.kind) {
      case 0:
        return nearestMultiple(twelfths, 1, 0);
      case 1:
        return nearestMultiple(twelfths, 12, 12);
      case 2:
        return nearestMultiple(twelfths, part.step, 0);
      case 3:
        long packets = 0;
        while (Fraction.of(packets).compareTo(twelfths) < 0) {
          packets += 12L * part.step;
        }
        return packets;
      case 4:
        return 12L * part.amount;
      default:
        long whole = nearestMultiple(twelfths, 12, 12);
        boolean near = Fraction.of(whole).distance(twelfths).compareTo(Fraction.of(part.step)) <= 0;
        return near ? whole : nearestMultiple(twelfths, 1, 0);
    }
  }

  private long taken(Part part, int g) {
    return takenBy(part, scaleFor(g));
  }

  private Fraction offFree(Part part, Fraction scale) {
    return Fraction.of(takenBy(part, scale)).distance(shareOf(part, scale).times(Fraction.of(12)));
  }

  private Fraction offOf(Part part, Fraction scale) {
    return offFree(part, scale).times(Fraction.of(part.cost));
  }

  private Fraction offAll(int g) {
    Fraction sum = Fraction.of(0);
    for (Part part : now.parts) {
      sum = sum.plus(offOf(part, scaleFor(g)));
    }
    return sum;
  }

  private static long wholes(long twelfths) {
    return Fraction.of(twelfths, 12).up();
  }

  private long left(Part part) {
    long share = shareOf(part, scaleFor(now.guests)).times(Fraction.of(12)).up();
    return Math.max(0, 12 * wholes(taken(part, now.guests)) - share);
  }

  private boolean houseFeeds(int g) {
    return now.parts.stream().allMatch(part -> 12L * part.house >= taken(part, g));
  }

  // Promises 2 and 3

  int feed(int letter) {
    if (letter < 0) {
      return no(-4);
    }
    if (letter > 255 || letters.length() >= 96) {
      return no(-6);
    }
    letters += (char) letter;
    return letters.length();
  }

  private static final String STATEMENT = "(?:f(\\d{1,2})|p(\\d)(\\d)(\\d)(\\d{1,2})|h(\\d)=(\\d{1,2})"
      + "|t([oq])(\\d{1,2})|s(\\d)(\\d)(\\d)(\\d)(\\d)|c(\\d\\d)(\\d\\d)(\\d\\d));";
  private static final String[] BEGUN = {"f", "f\\d", "f\\d\\d", "p", "p\\d", "p\\d\\d", "p\\d\\d\\d",
      "p\\d{4}", "p\\d{5}", "h", "h\\d", "h\\d=", "h\\d=\\d", "h\\d=\\d\\d", "t", "t[oq]", "t[oq]\\d",
      "t[oq]\\d\\d", "s", "s\\d", "s\\d\\d", "s\\d\\d\\d", "s\\d{4}", "s\\d{5}", "c", "c\\d", "c\\d\\d",
      "c\\d{3}", "c\\d{4}", "c\\d{5}", "c\\d{6}", ""};
  private static final Pattern BEGINNING = Pattern.compile(
      "(?:" + STATEMENT + ")*(?:" + String.join("|", BEGUN) + ")", Pattern.DOTALL);
  private static final Pattern WHOLE = Pattern.compile("(?:" + STATEMENT + ")+", Pattern.DOTALL);

  int book() {
    String text = letters;
    letters = "";
    if (!WHOLE.matcher(text).matches()) {
      int goes = 0;
      while (goes < text.length() && BEGINNING.matcher(text.substring(0, goes + 1)).matches()) {
        goes++;
      }
      return -1000 - goes;
    }
    All before = now;
    now = now.copy();
    int statements = 0;
    Matcher matcher = Pattern.compile(STATEMENT).matcher(text);
    while (matcher.find()) {
      if (!comes(matcher)) {
        now = before;
        return -2000 - matcher.start();
      }
      statements++;
    }
    earlier.clear();
    return statements;
  }

  private static int number(Matcher matcher, int group) {
    return Integer.parseInt(matcher.group(group));
  }

  private boolean comes(Matcher told) {
    switch (told.group().charAt(0)) {
      case 'f':
        now.forMany = number(told, 1);
        return now.forMany >= 1 && now.forMany <= 24;
      case 'p':
        Part part = new Part();
        part.kind = number(told, 2);
        part.step = number(told, 3);
        part.cost = number(told, 4);
        part.amount = number(told, 5);
        now.parts.add(part);
        return part.kind <= 5 && part.step >= 1 && part.amount >= 1 && now.parts.size() <= 8;
      case 'h':
        if (!isPart(number(told, 6))) {
          return false;
        }
        now.parts.get(number(told, 6)).house = number(told, 7);
        return true;
      case 't':
        int size = number(told, 9);
        now.tins.add(new int[] {told.group(8).equals("q") ? 1 : 0, size});
        return size >= 1 && size <= 30 && now.tins.size() <= 5;
      case 's':
        int[] s = {number(told, 10), number(told, 11), number(told, 12), number(told, 13), number(told, 14)};
        boolean there = now.standIns.stream().anyMatch(had -> had[0] == s[0] && had[1] == s[1]);
        now.standIns.add(s);
        return isPart(s[0]) && isPart(s[1]) && s[0] != s[1] && !there && s[2] > 0 && s[3] > 0
            && now.standIns.size() <= 6;
      default:
        now.cups = new int[] {number(told, 15), number(told, 16), number(told, 17)};
        return Arrays.stream(now.cups).allMatch(cup -> cup <= 12);
    }
  }

  // Promises 4 to 9

  int part(int part, int what) {
    if (!isPart(part)) {
      return no(-1);
    }
    Part it = now.parts.get(part);
    switch (what) {
      case 0: return it.kind;
      case 1: return it.step;
      case 2: return it.cost;
      case 3: return it.amount;
      case 4: return it.house;
      case 5: return (int) taken(it, now.guests);
      case 6: return (int) left(it);
      default: return no(-2);
    }
  }

  int guests(int g) {
    if (g < 1) {
      return no(-4);
    }
    if (g > 24) {
      return no(-6);
    }
    earlier.push(now.guests);
    if (earlier.size() > 8) {
      earlier.removeLast();
    }
    now.guests = g;
    return earlier.peek();
  }

  private int number99(int part, int v) {
    return !isPart(part) ? no(-1) : v < 0 ? no(-4) : v > 99 ? no(-6) : 0;
  }

  int house(int part, int v) {
    int wrong = number99(part, v);
    if (wrong != 0) {
      return wrong;
    }
    int was = now.parts.get(part).house;
    now.parts.get(part).house = v;
    return was;
  }

  int set(int what, int v) {
    if (what != 0 && what != 1) {
      return no(-2);
    }
    if (v < 1) {
      return no(-4);
    }
    if (v > (what == 0 ? 999 : 99)) {
      return no(-6);
    }
    int was;
    if (what == 0) {
      was = now.volume;
      now.volume = v;
    } else {
      was = now.time;
      now.time = v;
    }
    return was;
  }

  private static long line(Fraction fraction, int line) {
    return line == 0 ? fraction.above() : fraction.below();
  }

  long share(int part, int g, int line) {
    if (!isPart(part)) {
      return noLong(-1);
    }
    if (g < 1) {
      return noLong(-4);
    }
    if (g > 24) {
      return noLong(-6);
    }
    if (line != 0 && line != 1) {
      return noLong(-2);
    }
    return line(shareOf(now.parts.get(part), scaleFor(g)), line);
  }

  long off(int part, int line) {
    if (part != -1 && !isPart(part)) {
      return noLong(-1);
    }
    if (line != 0 && line != 1) {
      return noLong(-2);
    }
    return line(part == -1 ? offAll(now.guests) : offOf(now.parts.get(part), scaleFor(now.guests)), line);
  }

  // Promises 10 to 12

  private int between(int a, int b, int most) {
    if (a < 1 || b < 1) {
      return no(-4);
    }
    if (a > most || b > most) {
      return no(-6);
    }
    return a > b ? no(-3) : 0;
  }

  int best(int a, int b) {
    int wrong = between(a, b, 24);
    if (wrong != 0) {
      return wrong;
    }
    int best = a;
    for (int g = a; g <= b; g++) {
      if (offAll(g).compareTo(offAll(best)) < 0) {
        best = g;
      }
    }
    return best;
  }

  int out(int i) {
    if (i < -1) {
      return no(-4);
    }
    List<Integer> numbers = new ArrayList<>();
    for (int g = 1; g <= 24; g++) {
      Fraction scale = scaleFor(g);
      if (now.parts.stream().allMatch(part -> offFree(part, scale).above() == 0)) {
        numbers.add(g);
      }
    }
    return i == -1 ? numbers.size() : i < numbers.size() ? numbers.get(i) : -9;
  }

  int scale(int c, int e, int what) {
    int wrong = between(c, e, 240);
    if (wrong != 0) {
      return wrong;
    }
    if (what < 0 || what > 2) {
      return no(-2);
    }
    int best = 0;
    Fraction least = null;
    for (int s = c; s <= e; s++) {
      Fraction greatest = Fraction.of(0);
      for (Part part : now.parts) {
        Fraction off = offOf(part, Fraction.of(s, 24));
        greatest = off.compareTo(greatest) > 0 ? off : greatest;
      }
      if (least == null || greatest.compareTo(least) < 0) {
        best = s;
        least = greatest;
      }
    }
    return what == 0 ? best : (int) line(least, what - 1);
  }

  // Promises 13 to 15

  private static int area(int[] tin) {
    return (tin[0] == 1 ? 14 : 11) * tin[1] * tin[1];
  }

  private Fraction deepOf(int[] tin) {
    return Fraction.of(now.volume).times(scaleFor(now.guests)).by(Fraction.of(area(tin), 14));
  }

  private Fraction rightDepth() {
    return Fraction.of(now.volume).by(Fraction.of(area(now.tins.get(0)), 14));
  }

  int tin(int tin, int what) {
    if (tin < 0 || tin >= now.tins.size()) {
      return no(-1);
    }
    switch (what) {
      case 0:
      case 1:
        return now.tins.get(tin)[what];
      case 2:
        return area(now.tins.get(tin));
      case 3:
        Fraction time = Fraction.of(now.time).times(deepOf(now.tins.get(tin)).by(rightDepth()));
        long minutes = nearestMultiple(time, 1, 0);
        return (int) Math.min(999, Math.max(1, Math.max(now.time / 3, minutes)));
      default:
        return no(-2);
    }
  }

  long deep(int tin, int line) {
    if (tin < 0 || tin >= now.tins.size()) {
      return noLong(-1);
    }
    if (line != 0 && line != 1) {
      return noLong(-2);
    }
    return line(deepOf(now.tins.get(tin)), line);
  }

  int tinFor() {
    int best = -9;
    for (int i = 0; i < now.tins.size(); i++) {
      if (best < 0 || deepOf(now.tins.get(i)).distance(rightDepth())
          .compareTo(deepOf(now.tins.get(best)).distance(rightDepth())) < 0) {
        best = i;
      }
    }
    return best;
  }

  // Promises 16 to 19

  int enough() {
    int most = 0;
    for (int g = 1; g <= 24; g++) {
      most = houseFeeds(g) ? g : most;
    }
    return most;
  }

  int lacks() {
    int bits = 0;
    for (int i = 0; i < now.parts.size(); i++) {
      Part part = now.parts.get(i);
      bits += taken(part, now.guests) > 12L * part.house ? 1 << i : 0;
    }
    return bits;
  }

  int standIn(int i, int what) {
    if (i < 0 || i >= now.standIns.size()) {
      return no(-1);
    }
    return what < 0 || what > 4 ? no(-2) : now.standIns.get(i)[what];
  }

  int stead(int part) {
    if (!isPart(part)) {
      return no(-1);
    }
    Part it = now.parts.get(part);
    long lack = Math.max(0, wholes(taken(it, now.guests) - 12L * it.house));
    if (lack > 99) {
      return -9;
    }
    List<int[]> usable = new ArrayList<>();
    for (int[] s : now.standIns) {
      if (s[0] == part) {
        Part other = now.parts.get(s[1]);
        long spare = Math.max(0, other.house - wholes(taken(other, now.guests)));
        usable.add(new int[] {(int) (spare / s[2]), s[3], s[4]});
      }
    }
    int[][] known = new int[usable.size() + 1][100];
    for (int[] line : known) {
      Arrays.fill(line, -1);
    }
    int loss = leastLoss(usable, 0, (int) lack, known);
    return loss >= 1000000 ? -9 : loss;
  }

  private static int leastLoss(List<int[]> usable, int from, int lack, int[][] known) {
    if (lack <= 0) {
      return 0;
    }
    if (from >= usable.size()) {
      return 1000000;
    }
    if (known[from][lack] < 0) {
      int[] s = usable.get(from);
      int least = 1000000;
      for (int times = 0; times <= s[0]; times++) {
        least = Math.min(least, times * s[2] + leastLoss(usable, from + 1, lack - times * s[1], known));
      }
      known[from][lack] = least;
    }
    return known[from][lack];
  }

  // Promises 20 to 22 and 45

  int cup(int cup, int v) {
    if (cup < 0 || cup > 2) {
      return no(-1);
    }
    if (v < 0 || v > 12) {
      return no(v < 0 ? -4 : -6);
    }
    int was = now.cups[cup];
    now.cups[cup] = v;
    return was;
  }

  /** All states as they come, each with the steps that lead to it. */
  private Map<List<Integer>, List<Integer>> ways() {
    Map<List<Integer>, List<Integer>> ways = new LinkedHashMap<>();
    ArrayDeque<List<Integer>> open = new ArrayDeque<>();
    open.add(List.of(0, 0, 0));
    ways.put(List.of(0, 0, 0), List.of());
    while (!open.isEmpty()) {
      List<Integer> state = open.remove();
      for (int cup = 0; cup < 3; cup++) {
        int size = now.cups[cup];
        come(ways, open, state, 100 + cup, cup, size, cup, size);
        come(ways, open, state, 200 + cup, cup, 0, cup, 0);
        for (int other = 0; other < 3; other++) {
          int together = state.get(cup) + state.get(other);
          int there = Math.min(together, now.cups[other]);
          if (other != cup) {
            come(ways, open, state, 300 + 10 * other + cup, cup, together - there, other, there);
          }
        }
      }
    }
    return ways;
  }

  private static void come(Map<List<Integer>, List<Integer>> ways, ArrayDeque<List<Integer>> open,
      List<Integer> from, int step, int cup, int level, int other, int otherLevel) {
    List<Integer> state = new ArrayList<>(from);
    state.set(cup, level);
    state.set(other, otherLevel);
    if (!ways.containsKey(state)) {
      List<Integer> way = new ArrayList<>(ways.get(from));
      way.add(step);
      ways.put(state, way);
      open.add(state);
    }
  }

  private List<Integer> wayTo(int n) {
    for (Map.Entry<List<Integer>, List<Integer>> entry : ways().entrySet()) {
      if (entry.getKey().contains(n)) {
        return entry.getValue();
      }
    }
    return null;
  }

  int pours(int n) {
    if (n < 1 || n > 12) {
      return no(n < 1 ? -4 : -6);
    }
    List<Integer> way = wayTo(n);
    return way == null ? -9 : way.size();
  }

  int steps(int one, int two, int three) {
    if (one < 0 || two < 0 || three < 0) {
      return no(-4);
    }
    if (one > 12 || two > 12 || three > 12) {
      return no(-6);
    }
    List<Integer> way = ways().get(List.of(one, two, three));
    return way == null ? -9 : way.size();
  }

  int path(int n, int i) {
    if (n < 1 || i < 0) {
      return no(-4);
    }
    if (n > 12) {
      return no(-6);
    }
    List<Integer> way = wayTo(n);
    return way == null || i >= way.size() ? -9 : way.get(i);
  }

  // Promises 23 to 26

  private int mistakeOf(int part, int v) {
    for (int number = 1; number <= 999; number++) {
      if (shareOf(now.parts.get(part), Fraction.of(number, now.forMany)).compareTo(Fraction.of(v)) >= 0) {
        return number;
      }
    }
    return -9;
  }

  int mistake(int part, int v) {
    if (!isPart(part)) {
      return no(-1);
    }
    return v < 0 ? no(-4) : v > 999 ? no(-6) : mistakeOf(part, v);
  }

  int more(int part, int v, int other) {
    if (!isPart(part) || !isPart(other)) {
      return no(-1);
    }
    if (v < 0 || v > 999) {
      return no(v < 0 ? -4 : -6);
    }
    int number = mistakeOf(part, v);
    if (number == -9) {
      return -9;
    }
    Part it = now.parts.get(other);
    Fraction share = shareOf(it, Fraction.of(number, now.forMany));
    return (int) Math.max(0, share.minus(Fraction.of(taken(it, now.guests), 12)).up());
  }

  int lots(int x, int y) {
    if (x < 1 || y < 1) {
      return no(-4);
    }
    if (x > 24 || y > 24) {
      return no(-6);
    }
    int[] best = null;
    for (int i = 0; i <= 30; i++) {
      for (int j = 0; j <= 30; j++) {
        int[] it = {i * x + j * y - now.guests, i + j, i, j};
        if (it[0] >= 0 && (best == null || Arrays.compare(it, best) < 0)) {
          best = it;
        }
      }
    }
    return 100 * best[2] + best[3];
  }

  int used() {
    int most = 0;
    for (int n = 0; n <= 24; n++) {
      Fraction scale = scaleFor(n);
      boolean all = now.parts.stream().allMatch(
          part -> shareOf(part, scale).compareTo(Fraction.of(left(part), 12)) <= 0);
      most = all ? n : most;
    }
    return most;
  }

  // Promises 27 to 30

  int row(int v) {
    if (v < 0) {
      return no(-4);
    }
    if (v > 99 || row.size() >= 8) {
      return no(-6);
    }
    row.add(v);
    return row.size();
  }

  private int bits(int many, IntPredicate which) {
    int bits = 0;
    for (int i = 0; i < many; i++) {
      bits |= which.test(i) ? 1 << i : 0;
    }
    return bits;
  }

  private boolean isSo(int part, int g) {
    return Math.floorDiv(taken(now.parts.get(part), g), 12) == row.get(part);
  }

  int read(int what) {
    if (what < 0 || what > 2) {
      return no(-2);
    }
    int parts = now.parts.size();
    if (row.size() != parts) {
      return no(-3);
    }
    if (what == 0) {
      return bits(24, g -> bits(parts, part -> isSo(part, g + 1)) == (1 << parts) - 1);
    }
    return what == 1
        ? bits(parts, part -> isSo(part, now.guests))
        : bits(parts, part -> row.get(part) == now.parts.get(part).amount);
  }

  int judge() {
    if (row.size() != now.parts.size()) {
      return no(-3);
    }
    int either = read(1) | read(2);
    int first = Integer.numberOfTrailingZeros(~either);
    int parts = now.parts.size();
    row.clear();
    return first < parts ? first : -9;
  }

  int clear() {
    int had = row.size();
    row = new ArrayList<>();
    return had;
  }

  // Promises 31 and 32

  long seeds(int n, int z, int what) {
    if (n < 1 || n > 20) {
      return noLong(n < 1 ? -4 : -6);
    }
    if (what < 0 || what > 2) {
      return noLong(-2);
    }
    Fraction sum = Fraction.of(0);
    int fed = 0;
    long seed = z;
    for (int i = 0; i < n; i++) {
      seed = (int) (seed * 1103515245L + 12345L);
      int g = (int) ((seed & 0x7fffffffL) >> 16) % 24 + 1;
      sum = sum.plus(offAll(g));
      fed += houseFeeds(g) ? 1 : 0;
    }
    return what == 2 ? fed : line(sum, what);
  }

  int back() {
    if (earlier.isEmpty()) {
      return no(-3);
    }
    now.guests = earlier.pop();
    return now.guests;
  }

  // Promises 33 to 35

  int price(int part, int v) {
    int wrong = number99(part, v);
    if (wrong != 0) {
      return wrong;
    }
    int was = now.parts.get(part).price;
    now.parts.get(part).price = v;
    return was;
  }

  private long pence(int g) {
    long sum = 0;
    for (Part part : now.parts) {
      long bought = 0;
      long taken = taken(part, g);
      while (12 * (bought + part.house) < taken) {
        bought += part.kind == 3 ? part.step : 1;
      }
      sum += bought * part.price;
    }
    return sum;
  }

  int buy(int g) {
    return g < 1 ? no(-4) : g > 24 ? no(-6) : (int) pence(g);
  }

  int cheapest(int a, int b) {
    int wrong = between(a, b, 24);
    if (wrong != 0) {
      return wrong;
    }
    int best = a;
    for (int g = a; g <= b; g++) {
      if (Fraction.of(pence(g), g).compareTo(Fraction.of(pence(best), best)) < 0) {
        best = g;
      }
    }
    return best;
  }

  // Promises 36 to 38

  int weight(int ounces) {
    if (ounces < 1) {
      return no(-4);
    }
    if (ounces > 40 || now.weights.size() >= 5) {
      return no(-6);
    }
    now.weights.add(ounces);
    return now.weights.size();
  }

  /** Each WEIGHT is left aside, or on the other pan, or beside: how many stand, and how; null for none. */
  private int[] balance(int n, int from, int other, int beside) {
    if (from == now.weights.size()) {
      return n == 0 ? new int[] {Integer.bitCount(other) + Integer.bitCount(beside), other + 32 * beside} : null;
    }
    int[] best = balance(n, from + 1, other, beside);
    int ounces = now.weights.get(from);
    for (int[] it : new int[][] {
        balance(n - ounces, from + 1, other | 1 << from, beside),
        balance(n + ounces, from + 1, other, beside | 1 << from)}) {
      if (it != null && (best == null || Arrays.compare(it, best) < 0)) {
        best = it;
      }
    }
    return best;
  }

  int weighed(int n, int what) {
    if (n < 1 || n > 200) {
      return no(n < 1 ? -4 : -6);
    }
    if (what != 0 && what != 1) {
      return no(-2);
    }
    int[] best = balance(n, 0, 0, 0);
    return best == null ? -9 : best[what];
  }

  int heavy() {
    TreeSet<Integer> found = new TreeSet<>(List.of(0));
    for (int ounces : now.weights) {
      for (int it : List.copyOf(found)) {
        found.add(it + ounces);
        found.add(it - ounces);
      }
    }
    return found.subSet(1, 201).size();
  }

  // Promises 39 to 44

  /** Gives the cakes out from the last one down: so the digits rise; the best way and when all is done. */
  private int[] soonest(int s, int cake, int[] busy, int digits) {
    if (cake < 0) {
      return new int[] {Arrays.stream(busy).max().getAsInt(), digits};
    }
    int[] best = null;
    for (int shelf = 0; shelf < s; shelf++) {
      int[] then = busy.clone();
      then[shelf] += row.get(cake);
      int[] it = soonest(s, cake - 1, then, digits + shelf * (1 << 2 * cake));
      if (best == null || Arrays.compare(it, best) < 0) {
        best = it;
      }
    }
    return best;
  }

  int oven(int s, int what) {
    if (s < 1 || s > 3) {
      return no(s < 1 ? -4 : -6);
    }
    if (what < 0 || what > 2) {
      return no(-2);
    }
    if (what > 0) {
      return soonest(s, row.size() - 1, new int[s], 0)[what - 1];
    }
    List<Integer> free = new ArrayList<>();
    for (int i = 0; i < s; i++) {
      free.add(0);
    }
    for (int minutes : row) {
      free.sort(null);
      free.set(0, free.get(0) + minutes);
    }
    return free.stream().max(Integer::compare).get();
  }

  int also(int part, int v) {
    int wrong = number99(part, v);
    if (wrong != 0) {
      return wrong;
    }
    int was = now.parts.get(part).also;
    now.parts.get(part).also = v;
    return was;
  }

  int recipes(int what) {
    if (what != 0 && what != 1) {
      return no(-2);
    }
    int[] best = null;
    for (int x = 0; x <= 24; x++) {
      for (int y = 0; y <= 24; y++) {
        Fraction first = scaleFor(x);
        Fraction second = scaleFor(y);
        boolean fits = now.parts.stream().allMatch(part -> shareOf(part, first)
            .plus(Fraction.of(part.also).times(second)).compareTo(Fraction.of(part.house)) <= 0);
        int[] it = {x + y, x, y};
        if (fits && (best == null || Arrays.compare(it, best) > 0)) {
          best = it;
        }
      }
    }
    return best[what + 1];
  }

  int needed(int part, int v, int other) {
    if (!isPart(part) || !isPart(other) || part == other) {
      return no(-1);
    }
    if (v < 0 || v > 99) {
      return no(v < 0 ? -4 : -6);
    }
    Fraction wholes = Fraction.of(now.parts.get(other).amount).times(Fraction.of(v))
        .by(Fraction.of(now.parts.get(part).amount));
    return (int) nearestMultiple(wholes.times(Fraction.of(12)), 1, 0);
  }

  int forgotten() {
    int worst = -9;
    Fraction most = Fraction.of(0);
    for (int i = 0; i < now.parts.size(); i++) {
      Part part = now.parts.get(i);
      Fraction off = shareOf(part, scaleFor(now.guests)).times(Fraction.of(12L * part.cost));
      if (part.cost > 0 && (worst < 0 || off.compareTo(most) > 0)) {
        worst = i;
        most = off;
      }
    }
    return worst;
  }

  int pair() {
    int best = -9;
    Fraction nearest = null;
    for (int i = 0; i < now.tins.size(); i++) {
      for (int j = i + 1; j < now.tins.size(); j++) {
        Fraction goal = Fraction.of(area(now.tins.get(0))).times(scaleFor(now.guests));
        Fraction apart = Fraction.of(area(now.tins.get(i)) + area(now.tins.get(j))).distance(goal);
        if (nearest == null || apart.compareTo(nearest) < 0) {
          best = 10 * i + j;
          nearest = apart;
        }
      }
    }
    return best;
  }

  // Promises 46 to 48

  int dish(int part, int twelfths, int other, int more, int worth) {
    if (!isPart(part) || !isPart(other)) {
      return no(-1);
    }
    if (twelfths < 0 || more < 0 || worth < 0) {
      return no(-4);
    }
    if (twelfths > 99 || more > 99 || worth > 99 || now.dishes.size() >= 4) {
      return no(-6);
    }
    now.dishes.add(new int[] {part, twelfths, other, more, worth});
    return now.dishes.size() - 1;
  }

  int usedUp(int what) {
    if (what != 0 && what != 1) {
      return no(-2);
    }
    int[] best = {0, 0};
    for (int set = 0; set < 1 << now.dishes.size(); set++) {
      long[] rest = now.parts.stream().mapToLong(this::left).toArray();
      int worth = 0;
      for (int i = 0; i < now.dishes.size(); i++) {
        if ((set & 1 << i) != 0) {
          int[] dish = now.dishes.get(i);
          rest[dish[0]] -= dish[1];
          rest[dish[2]] -= dish[3];
          worth += dish[4];
        }
      }
      if (worth > best[0] && Arrays.stream(rest).allMatch(twelfths -> twelfths >= 0)) {
        best = new int[] {worth, set};
      }
    }
    return best[what];
  }

  int fair(int what) {
    if (what != 0 && what != 1) {
      return no(-2);
    }
    if (row.isEmpty() || row.contains(0)) {
      return no(-3);
    }
    int all = row.stream().mapToInt(Integer::intValue).sum();
    int[] best = null;
    for (int group = 0; group < 1 << row.size(); group++) {
      int mine = 0;
      for (int i = 0; i < row.size(); i++) {
        mine += (group & 1 << i) != 0 ? row.get(i) : 0;
      }
      int[] it = {Math.abs(all - mine - mine), group};
      if ((group & 1) == 1 && (best == null || Arrays.compare(it, best) < 0)) {
        best = it;
      }
    }
    return best[1 - what];
  }

  // Promises 49 to 51

  int image() {
    kept = now.copy();
    return now.guests;
  }

  int restore() {
    if (kept == null) {
      return no(-3);
    }
    now = kept.copy();
    earlier.clear();
    return now.guests;
  }

  int count(int what) {
    switch (what) {
      case 0: return now.parts.size();
      case 1: return now.forMany;
      case 2: return now.guests;
      case 3: return now.tins.size();
      case 4: return now.standIns.size();
      case 5: return now.parts.stream().mapToInt(part -> part.house).sum();
      case 6: return letters.length();
      case 7: return row.size();
      case 8: return now.volume;
      case 9: return now.time;
      case 10: return now.weights.size();
      case 11: return refusals[1];
      case 12: return refusals[2];
      case 13: return refusals[3];
      case 14: return refusals[4];
      case 15: return refusals[5];
      case 16: return refusals[6];
      case 17: return earlier.size();
      case 18: return now.dishes.size();
      case 20:
      case 21:
      case 22: return now.cups[what - 20];
      default: return -9;
    }
  }
}
