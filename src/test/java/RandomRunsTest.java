import java.util.Random;

/** Promises 1 to 51: runs of calls by told seeds, each answer held against that of the Model. */
public final class RandomRunsTest {
  private static final int RUNS = 500;
  /** An object is used for at most 512 calls; a BOOK or a ROW begun behind these ends before. */
  private static final int CALLS = 440;

  private final Random random;
  private final TwoThirdsOfAnEgg egg = new TwoThirdsOfAnEgg();
  private final Model model = new Model();
  private final String run;
  private int calls = 0;

  private RandomRunsTest(int seed) {
    random = new Random(seed);
    run = "run " + seed + ": ";
  }

  public static void main(String[] args) {
    int runs = args.length > 0 ? Integer.parseInt(args[0]) : RUNS;
    for (int seed = 0; seed < runs; seed++) {
      RandomRunsTest test = new RandomRunsTest(seed);
      for (int i = 0; i < CALLS && test.calls < CALLS; i++) {
        test.call();
      }
    }
    Check.end("RandomRunsTest");
  }

  /** Mostly from least to most, now and then around it or far off. */
  private int number(int least, int most) {
    int how = random.nextInt(40);
    if (how == 0) {
      return least - 1;
    }
    if (how == 1) {
      return most + 1;
    }
    if (how == 2) {
      return random.nextInt();
    }
    if (how < 6) {
      return random.nextBoolean() ? least : most;
    }
    return least + random.nextInt(most - least + 1);
  }

  private int anyPart() {
    return number(0, Math.max(0, model.now.parts.size() - 1));
  }

  private char digit(int least, int most) {
    int v = random.nextInt(60) == 0 ? random.nextInt(10) : least + random.nextInt(most - least + 1);
    return (char) ('0' + v);
  }

  private String digits(int least, int most) {
    int v = random.nextInt(60) == 0 ? random.nextInt(100) : least + random.nextInt(most - least + 1);
    return random.nextInt(8) == 0 && v < 10 ? "0" + v : Integer.toString(v);
  }

  private String two(int least, int most) {
    String text = digits(least, most);
    return text.length() < 2 ? "0" + text : text;
  }

  private String statement() {
    int last = Math.max(1, Math.min(9, model.now.parts.size() - 1));
    boolean small = random.nextBoolean();
    switch (random.nextInt(9)) {
      case 0:
        return "f" + digits(1, 24) + ";";
      case 1:
      case 2:
      case 3:
        return "p" + digit(0, 5) + digit(1, 9) + digit(0, 9) + digits(1, small ? 9 : 99) + ";";
      case 4:
      case 5:
        return "h" + digit(0, last) + "=" + digits(0, small ? 9 : 99) + ";";
      case 6:
        return "t" + (random.nextBoolean() ? "o" : "q") + digits(1, 30) + ";";
      case 7:
        return "s" + digit(0, last) + digit(0, last) + digit(1, small ? 2 : 9) + digit(1, 9) + digit(0, 9) + ";";
      default:
        return "c" + two(0, 12) + two(0, 12) + two(0, 12) + ";";
    }
  }

  private void tellBook() {
    StringBuilder text = new StringBuilder();
    int statements = 1 + random.nextInt(6);
    for (int i = 0; i < statements; i++) {
      text.append(statement());
    }
    if (random.nextInt(6) == 0) {
      text.setCharAt(random.nextInt(text.length()), "fphtoqsc=;0129 x".charAt(random.nextInt(16)));
    }
    if (random.nextInt(12) == 0) {
      text.setLength(random.nextInt(text.length() + 1));
    }
    for (int i = 0; i < text.length(); i++) {
      due("feed", egg.feed(text.charAt(i)), model.feed(text.charAt(i)));
    }
    due("book " + text, egg.book(), model.book());
  }

  private void due(String call, long got, long want) {
    calls++;
    Check.due(run + call, got, want);
  }

  private void fillRow() {
    due("clear", egg.clear(), model.clear());
    for (int part = 0; part < model.now.parts.size(); part++) {
      Model.Part it = model.now.parts.get(part);
      int v = random.nextInt(3) == 0 ? it.amount : model.part(part, 5) / 12;
      v = random.nextInt(12) == 0 ? v + 1 : v;
      due("row", egg.row(v), model.row(v));
    }
  }

  private void call() {
    switch (random.nextInt(6)) {
      case 0 -> change();
      case 1, 2 -> lookOne();
      case 3, 4 -> lookTwo();
      default -> lookThree();
    }
  }

  private void change() {
    int part = anyPart();
    switch (random.nextInt(20)) {
      case 0, 1, 2, 3 -> tellBook();
      case 4, 5 -> {
        int g = number(1, 24);
        due("guests " + g, egg.guests(g), model.guests(g));
      }
      case 6, 7 -> {
        int v = number(0, 99);
        due("house " + part + " " + v, egg.house(part, v), model.house(part, v));
      }
      case 8 -> {
        int what = number(0, 1);
        int v = number(1, what == 0 ? 999 : 99);
        due("set " + what + " " + v, egg.set(what, v), model.set(what, v));
      }
      case 9 -> {
        int cup = number(0, 2);
        int v = number(0, 12);
        due("cup " + cup + " " + v, egg.cup(cup, v), model.cup(cup, v));
      }
      case 10 -> {
        int v = number(0, 99);
        due("row " + v, egg.row(v), model.row(v));
      }
      case 11 -> due("clear", egg.clear(), model.clear());
      case 12 -> due("back", egg.back(), model.back());
      case 13 -> {
        int v = number(0, 99);
        due("price " + part + " " + v, egg.price(part, v), model.price(part, v));
      }
      case 14 -> {
        int v = number(0, random.nextBoolean() ? 9 : 99);
        due("also " + part + " " + v, egg.also(part, v), model.also(part, v));
      }
      case 15 -> {
        int v = number(1, 40);
        due("weight " + v, egg.weight(v), model.weight(v));
      }
      case 16 -> {
        int other = anyPart();
        int twelfths = number(0, 12);
        int more = number(0, 12);
        int worth = number(0, 99);
        due("dish " + part + " " + twelfths + " " + other + " " + more + " " + worth,
            egg.dish(part, twelfths, other, more, worth), model.dish(part, twelfths, other, more, worth));
      }
      case 17 -> due("image", egg.image(), model.image());
      case 18 -> {
        if (random.nextInt(4) == 0) {
          due("restore", egg.restore(), model.restore());
        }
      }
      default -> {
        int letter = number(0, 255);
        due("feed " + letter, egg.feed(letter), model.feed(letter));
      }
    }
  }

  private void lookOne() {
    int part = anyPart();
    int line = number(0, 1);
    switch (random.nextInt(12)) {
      case 0 -> {
        int what = number(0, 6);
        due("part " + part + " " + what, egg.part(part, what), model.part(part, what));
      }
      case 1 -> {
        int g = number(1, 24);
        due("share " + part + " " + g + " " + line, egg.share(part, g, line), model.share(part, g, line));
      }
      case 2 -> due("off " + part + " " + line, egg.off(part, line), model.off(part, line));
      case 3 -> due("off -1 " + line, egg.off(-1, line), model.off(-1, line));
      case 4 -> {
        int a = number(1, 24);
        int b = number(1, 24);
        due("best " + a + " " + b, egg.best(a, b), model.best(a, b));
      }
      case 5 -> {
        int i = number(-1, 6);
        due("out " + i, egg.out(i), model.out(i));
      }
      case 6 -> {
        int c = number(1, 240);
        int e = number(1, 240);
        int what = number(0, 2);
        due("scale " + c + " " + e + " " + what, egg.scale(c, e, what), model.scale(c, e, what));
      }
      case 7 -> {
        int tin = number(0, Math.max(0, model.now.tins.size() - 1));
        int what = number(0, 3);
        due("tin " + tin + " " + what, egg.tin(tin, what), model.tin(tin, what));
      }
      case 8 -> {
        int tin = number(0, Math.max(0, model.now.tins.size() - 1));
        due("deep " + tin + " " + line, egg.deep(tin, line), model.deep(tin, line));
      }
      case 9 -> due("tinFor", egg.tinFor(), model.tinFor());
      case 10 -> due("enough", egg.enough(), model.enough());
      default -> due("lacks", egg.lacks(), model.lacks());
    }
  }

  private void lookTwo() {
    int part = anyPart();
    int other = anyPart();
    switch (random.nextInt(12)) {
      case 0 -> {
        int i = number(0, 5);
        int what = number(0, 4);
        due("standIn " + i + " " + what, egg.standIn(i, what), model.standIn(i, what));
      }
      case 1, 2 -> due("stead " + part, egg.stead(part), model.stead(part));
      case 3 -> {
        int n = number(1, 12);
        int i = number(0, 7);
        due("pours " + n, egg.pours(n), model.pours(n));
        due("path " + n + " " + i, egg.path(n, i), model.path(n, i));
      }
      case 4 -> {
        int one = number(0, model.now.cups[0]);
        int two = number(0, model.now.cups[1]);
        int three = number(0, 12);
        due("steps " + one + " " + two + " " + three, egg.steps(one, two, three), model.steps(one, two, three));
      }
      case 5 -> {
        int v = number(0, random.nextBoolean() ? 99 : 999);
        due("mistake " + part + " " + v, egg.mistake(part, v), model.mistake(part, v));
      }
      case 6 -> {
        int v = number(0, random.nextBoolean() ? 99 : 999);
        due("more " + part + " " + v + " " + other, egg.more(part, v, other), model.more(part, v, other));
      }
      case 7 -> {
        int x = number(1, 24);
        int y = number(1, 24);
        due("lots " + x + " " + y, egg.lots(x, y), model.lots(x, y));
      }
      case 8 -> due("used", egg.used(), model.used());
      case 9, 10 -> {
        if (random.nextBoolean()) {
          fillRow();
        }
        int what = number(0, 2);
        due("read " + what, egg.read(what), model.read(what));
      }
      default -> {
        if (random.nextBoolean()) {
          fillRow();
        }
        due("judge", egg.judge(), model.judge());
      }
    }
  }

  private void lookThree() {
    int what = number(0, 1);
    switch (random.nextInt(12)) {
      case 0 -> {
        int n = number(1, 20);
        int z = random.nextInt();
        int of = number(0, 2);
        due("seeds " + n + " " + z + " " + of, egg.seeds(n, z, of), model.seeds(n, z, of));
      }
      case 1 -> {
        int g = number(1, 24);
        due("buy " + g, egg.buy(g), model.buy(g));
      }
      case 2 -> {
        int a = number(1, 24);
        int b = number(1, 24);
        due("cheapest " + a + " " + b, egg.cheapest(a, b), model.cheapest(a, b));
      }
      case 3 -> {
        int n = number(1, random.nextBoolean() ? 40 : 200);
        due("weighed " + n + " " + what, egg.weighed(n, what), model.weighed(n, what));
        due("heavy", egg.heavy(), model.heavy());
      }
      case 4 -> {
        int s = number(1, 3);
        int of = number(0, 2);
        due("oven " + s + " " + of, egg.oven(s, of), model.oven(s, of));
      }
      case 5 -> due("recipes " + what, egg.recipes(what), model.recipes(what));
      case 6 -> {
        int part = anyPart();
        int other = anyPart();
        int v = number(0, 99);
        due("needed " + part + " " + v + " " + other, egg.needed(part, v, other), model.needed(part, v, other));
      }
      case 7 -> due("forgotten", egg.forgotten(), model.forgotten());
      case 8 -> due("pair", egg.pair(), model.pair());
      case 9 -> due("usedUp " + what, egg.usedUp(what), model.usedUp(what));
      case 10 -> due("fair " + what, egg.fair(what), model.fair(what));
      default -> {
        int of = number(0, 22);
        due("count " + of, egg.count(of), model.count(of));
      }
    }
  }
}
