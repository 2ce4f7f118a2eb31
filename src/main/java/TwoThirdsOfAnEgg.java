/**
 * A recipe for so many, and what becomes of it for other numbers of guests.
 *
 * <p>What every call answers is told by the numbered promises of ../shared/DOC.md; words in
 * capitals in the comments here are the words of that document.
 */
public final class TwoThirdsOfAnEgg {
  private static final int NOBODY = -1;
  private static final int OTHER = -2;
  private static final int STATE = -3;
  private static final int BELOW = -4;
  private static final int ROOM = -6;
  private static final int NONE = -9;
  private static final long LONG_REFUSALS = 4000000000000000000L;
  /** Above all sums of which the least is sought. */
  private static final int BEYOND_ALL = 1000000000;
  private static final int ALL_BUT_THE_SIGN = 0x7fffffff;

  private static final int MOST_GUESTS = 24;
  private static final int MOST_WHOLES = 99;
  private static final int MOST_IN_MISTAKE = 999;
  private static final int MOST_OUNCES = 12;

  /** The columns of a PART; those up to HOUSE are numbered as part() numbers them. */
  private static final int KIND = 0;
  private static final int STEP = 1;
  private static final int COST = 2;
  private static final int AMOUNT = 3;
  private static final int HOUSE = 4;
  private static final int PRICE = 5;
  private static final int ALSO = 6;

  /** The columns of a TIN, numbered as tin() numbers them. */
  private static final int SQUARE = 0;
  private static final int SIZE = 1;

  /** The columns of a STAND-IN, numbered as standIn() numbers them. */
  private static final int STEAD_FOR = 0;
  private static final int STEAD_OF = 1;
  private static final int STEAD_TAKES = 2;
  private static final int STEAD_MAKES = 3;
  private static final int STEAD_LOSS = 4;

  /** The columns of a DISH, in the order in which dish() is told them. */
  private static final int DISH_PART = 0;
  private static final int DISH_TWELFTHS = 1;
  private static final int DISH_OTHER = 2;
  private static final int DISH_MORE = 3;
  private static final int DISH_WORTH = 4;

  private final Kitchen kitchen = new Kitchen();
  private final Kitchen image = new Kitchen();
  private final Kitchen draft = new Kitchen();
  private boolean imageTaken = false;
  private final Book book = new Book();
  private final Table row = new Table(8, 1);
  private final Table earlierGuests = new Table(8, 1);
  private final Table refusals = new Table(7, 1);
  private final Stores stores = new Stores();
  private final Pouring pouring = new Pouring();
  private final Balance balance = new Balance();
  private final Minutes minutes = new Minutes();

  public TwoThirdsOfAnEgg() {
    refusals.reset(7, 0);
  }

  // Promises 2 and 3: the book.

  public int feed(int letter) {
    int wrong = refused(outside(0, 255, letter), noRoom(book.letters()));
    if (wrong != 0) {
      return wrong;
    }
    book.letters().add(letter);
    return book.letters().size();
  }

  public int book() {
    draft.copyFrom(kitchen);
    int answer = book.tellTo(draft);
    if (answer > 0) {
      kitchen.copyFrom(draft);
      earlierGuests.reset(0, 0);
    }
    return answer;
  }

  // Promises 4 to 9: parts, guests, what there is, shares and how far off they are.

  public int part(int part, int what) {
    int wrong = refused(noPart(part), noChoice(what, 6));
    if (wrong != 0) {
      return wrong;
    }
    if (what == 5) {
      return kitchen.takenNow(part);
    }
    return what == 6 ? kitchen.left(part) : kitchen.parts.at(part, what);
  }

  public int guests(int g) {
    int wrong = refused(outside(1, MOST_GUESTS, g));
    if (wrong != 0) {
      return wrong;
    }
    int were = kitchen.guests;
    if (earlierGuests.full()) {
      earlierGuests.dropFirst();
    }
    earlierGuests.add(were);
    kitchen.guests = g;
    return were;
  }

  public int house(int part, int v) {
    return partBecomes(part, HOUSE, v);
  }

  public int set(int what, int v) {
    int wrong = refused(noChoice(what, 1), outside(1, what == 0 ? 999 : 99, v));
    if (wrong != 0) {
      return wrong;
    }
    int was = what == 0 ? kitchen.volume : kitchen.minutes;
    if (what == 0) {
      kitchen.volume = v;
    } else {
      kitchen.minutes = v;
    }
    return was;
  }

  public long share(int part, int g, int line) {
    int wrong = refused(noPart(part), outside(1, MOST_GUESTS, g), noChoice(line, 1));
    if (wrong != 0) {
      return LONG_REFUSALS - wrong;
    }
    return Sums.inLeastTerms(kitchen.parts.at(part, AMOUNT) * g, kitchen.forMany, line);
  }

  public long off(int part, int line) {
    int wrong = refused(part == -1 ? 0 : noPart(part), noChoice(line, 1));
    if (wrong != 0) {
      return LONG_REFUSALS - wrong;
    }
    int above = part == -1
        ? kitchen.allOff(kitchen.guests)
        : kitchen.offAtCost(part, kitchen.guests, kitchen.forMany);
    return Sums.inLeastTerms(above, kitchen.forMany, line);
  }

  // Promises 10 to 12: numbers and scales that suit the recipe.

  public int best(int a, int b) {
    int wrong = refused(either(1, MOST_GUESTS, a, b), a > b ? STATE : 0);
    return wrong != 0 ? wrong : Reckoning.leastOff(kitchen, a, b);
  }

  public int out(int i) {
    int wrong = refused(i < -1 ? BELOW : 0);
    return wrong != 0 ? wrong : Reckoning.comesOut(kitchen, i);
  }

  public int scale(int c, int e, int what) {
    int wrong = refused(either(1, 240, c, e), c > e ? STATE : 0, noChoice(what, 2));
    if (wrong != 0) {
      return wrong;
    }
    int best = Reckoning.bestScale(kitchen, c, e);
    if (what == 0) {
      return best;
    }
    return Sums.inLeastTerms(kitchen.greatestOff(best, 24), 24, what - 1);
  }

  // Promises 13 to 15: tins.

  public int tin(int tin, int what) {
    int wrong = refused(noSuch(kitchen.tins, tin), noChoice(what, 3));
    if (wrong != 0) {
      return wrong;
    }
    if (what == 2) {
      return Tins.area(kitchen, tin);
    }
    return what == 3 ? Tins.minutesIn(kitchen, tin) : kitchen.tins.at(tin, what);
  }

  public long deep(int tin, int line) {
    int wrong = refused(noSuch(kitchen.tins, tin), noChoice(line, 1));
    if (wrong != 0) {
      return LONG_REFUSALS - wrong;
    }
    int above = 14 * kitchen.volume * kitchen.guests;
    return Sums.inLeastTerms(above, kitchen.forMany * Tins.area(kitchen, tin), line);
  }

  public int tinFor() {
    return Tins.nearestTin(kitchen);
  }

  // Promises 16 to 19: what the house has, and stand-ins for what it lacks.

  public int enough() {
    return Reckoning.mostFed(kitchen);
  }

  public int lacks() {
    return Stores.lackingParts(kitchen);
  }

  public int standIn(int i, int what) {
    int wrong = refused(noSuch(kitchen.standIns, i), noChoice(what, 4));
    return wrong != 0 ? wrong : kitchen.standIns.at(i, what);
  }

  public int stead(int part) {
    int wrong = refused(noPart(part));
    return wrong != 0 ? wrong : stores.leastLoss(kitchen, part);
  }

  // Promises 20 to 22: cups.

  public int cup(int cup, int v) {
    int wrong = refused(noSuch(kitchen.cups, cup), outside(0, MOST_OUNCES, v));
    return wrong != 0 ? wrong : kitchen.cups.exchange(cup, 0, v);
  }

  public int pours(int n) {
    int wrong = refused(outside(1, MOST_OUNCES, n));
    return wrong != 0 ? wrong : pouring.fewestTo(kitchen.cups, n);
  }

  public int steps(int one, int two, int three) {
    int wrong = refused(each(MOST_OUNCES, one, two, three));
    return wrong != 0 ? wrong : pouring.fewestToAll(kitchen.cups, one, two, three);
  }

  // Promises 23 to 26: a mistake put right, lots, what is left over.

  public int mistake(int part, int v) {
    int wrong = refused(noPart(part), outside(0, MOST_IN_MISTAKE, v));
    return wrong != 0 ? wrong : Reckoning.numberFor(kitchen, part, v);
  }

  public int more(int part, int v, int other) {
    int wrong = refused(noPartOf(part, other), outside(0, MOST_IN_MISTAKE, v));
    return wrong != 0 ? wrong : Reckoning.moreOf(kitchen, part, v, other);
  }

  public int lots(int x, int y) {
    int wrong = refused(either(1, MOST_GUESTS, x, y));
    return wrong != 0 ? wrong : Reckoning.lotsFor(kitchen.guests, x, y);
  }

  public int used() {
    return Stores.moreGuests(kitchen);
  }

  // Promises 27 to 30: the row, and cakes read back.

  public int row(int v) {
    int wrong = refused(outside(0, MOST_WHOLES, v), noRoom(row));
    if (wrong != 0) {
      return wrong;
    }
    row.add(v);
    return row.size();
  }

  public int read(int what) {
    int wrong = refused(noChoice(what, 2), rowNotForParts());
    if (wrong != 0) {
      return wrong;
    }
    if (what == 0) {
      return CakeReader.numbersSo(kitchen, row);
    }
    return what == 1 ? CakeReader.halvedParts(kitchen, row) : CakeReader.amountParts(kitchen, row);
  }

  public int judge() {
    int wrong = refused(rowNotForParts());
    if (wrong != 0) {
      return wrong;
    }
    int judged = CakeReader.firstNeither(kitchen, row);
    row.reset(0, 0);
    return judged;
  }

  public int clear() {
    int had = row.size();
    row.reset(0, 0);
    return had;
  }

  // Promises 31 and 32: bakings by seeds, guests taken back.

  public long seeds(int n, int z, int what) {
    int wrong = refused(outside(1, 20, n), noChoice(what, 2));
    if (wrong != 0) {
      return LONG_REFUSALS - wrong;
    }
    if (what == 2) {
      return Reckoning.bakingsFed(kitchen, n, z);
    }
    return Sums.inLeastTerms(Reckoning.bakingsOff(kitchen, n, z), kitchen.forMany, what);
  }

  public int back() {
    int last = earlierGuests.size() - 1;
    int wrong = refused(last < 0 ? STATE : 0);
    if (wrong != 0) {
      return wrong;
    }
    kitchen.guests = earlierGuests.at(last, 0);
    earlierGuests.dropLast();
    return kitchen.guests;
  }

  // Promises 33 to 35: prices.

  public int price(int part, int v) {
    return partBecomes(part, PRICE, v);
  }

  public int buy(int g) {
    int wrong = refused(outside(1, MOST_GUESTS, g));
    return wrong != 0 ? wrong : Stores.penceFor(kitchen, g);
  }

  public int cheapest(int a, int b) {
    int wrong = refused(either(1, MOST_GUESTS, a, b), a > b ? STATE : 0);
    return wrong != 0 ? wrong : Stores.leastPence(kitchen, a, b);
  }

  // Promises 36 to 38: weights.

  public int weight(int ounces) {
    int wrong = refused(outside(1, 40, ounces), noRoom(kitchen.weights));
    if (wrong != 0) {
      return wrong;
    }
    kitchen.weights.add(ounces);
    return kitchen.weights.size();
  }

  public int weighed(int n, int what) {
    int wrong = refused(outside(1, Balance.MOST, n), noChoice(what, 1));
    return wrong != 0 ? wrong : balance.weighing(kitchen.weights, n, what);
  }

  public int heavy() {
    return balance.weighable(kitchen.weights);
  }

  // Promises 39 to 45: oven, a second recipe, what goes with what, tins by two, the way of pours.

  public int oven(int s, int what) {
    int wrong = refused(outside(1, 3, s), noChoice(what, 2));
    if (wrong != 0) {
      return wrong;
    }
    return what == 0 ? minutes.oneBehindTheOther(row, s) : minutes.soonest(row, s, what == 2);
  }

  public int also(int part, int v) {
    return partBecomes(part, ALSO, v);
  }

  public int recipes(int what) {
    int wrong = refused(noChoice(what, 1));
    if (wrong != 0) {
      return wrong;
    }
    int both = Reckoning.bothRecipes(kitchen);
    return what == 0 ? both / 100 : both % 100;
  }

  public int needed(int part, int v, int other) {
    int wrong = refused(notTwoParts(part, other), outside(0, MOST_WHOLES, v));
    if (wrong != 0) {
      return wrong;
    }
    int above = 12 * kitchen.parts.at(other, AMOUNT) * v;
    return Sums.nearest(above, kitchen.parts.at(part, AMOUNT));
  }

  public int forgotten() {
    return Reckoning.worstForgotten(kitchen);
  }

  public int pair() {
    return Tins.nearestPair(kitchen);
  }

  public int path(int n, int i) {
    int wrong = refused(n < 1 || i < 0 ? BELOW : 0, n > MOST_OUNCES ? ROOM : 0);
    return wrong != 0 ? wrong : pouring.stepOf(kitchen.cups, n, i);
  }

  // Promises 46 to 48: dishes of what is left, fair groups.

  public int dish(int part, int twelfths, int other, int more, int worth) {
    int wrong = refused(noPartOf(part, other), each(MOST_WHOLES, twelfths, more, worth),
        noRoom(kitchen.dishes));
    if (wrong != 0) {
      return wrong;
    }
    int dish = kitchen.dishes.add(part);
    kitchen.dishes.put(dish, DISH_TWELFTHS, twelfths);
    kitchen.dishes.put(dish, DISH_OTHER, other);
    kitchen.dishes.put(dish, DISH_MORE, more);
    kitchen.dishes.put(dish, DISH_WORTH, worth);
    return dish;
  }

  public int usedUp(int what) {
    int wrong = refused(noChoice(what, 1));
    if (wrong != 0) {
      return wrong;
    }
    int set = Stores.worthiestSet(kitchen);
    return what == 0 ? Stores.worthOf(kitchen, set) : set;
  }

  public int fair(int what) {
    boolean told = row.size() > 0 && !row.holds(0);
    int wrong = refused(noChoice(what, 1), told ? 0 : STATE);
    if (wrong != 0) {
      return wrong;
    }
    int group = Minutes.groupOfFirst(row);
    return what == 0 ? group : Minutes.groupsApart(row, group);
  }

  // Promises 49 to 51: the image, what there is.

  public int image() {
    image.copyFrom(kitchen);
    imageTaken = true;
    return kitchen.guests;
  }

  public int restore() {
    int wrong = refused(imageTaken ? 0 : STATE);
    if (wrong != 0) {
      return wrong;
    }
    kitchen.copyFrom(image);
    earlierGuests.reset(0, 0);
    return kitchen.guests;
  }

  public int count(int what) {
    if (what >= 11 && what <= 16) {
      return refusals.at(what - 10, 0);
    }
    if (what >= 20 && what <= 22) {
      return kitchen.cups.at(what - 20, 0);
    }
    switch (what) {
      case 0: return kitchen.parts.size();
      case 1: return kitchen.forMany;
      case 2: return kitchen.guests;
      case 3: return kitchen.tins.size();
      case 4: return kitchen.standIns.size();
      case 5: return kitchen.allHouse();
      case 6: return book.letters().size();
      case 7: return row.size();
      case 8: return kitchen.volume;
      case 9: return kitchen.minutes;
      case 10: return kitchen.weights.size();
      case 17: return earlierGuests.size();
      case 18: return kitchen.dishes.size();
      default: return NONE;
    }
  }

  // Refusals: each helper answers one refusal or 0; refused() counts and answers the first that fits.

  private int refused(int first, int second, int third) {
    int wrong = first != 0 ? first : second != 0 ? second : third;
    if (wrong != 0) {
      refusals.put(-wrong, 0, refusals.at(-wrong, 0) + 1);
    }
    return wrong;
  }

  private int refused(int first, int second) {
    return refused(first, second, 0);
  }

  private int refused(int only) {
    return refused(only, 0, 0);
  }

  private static int either(int least, int most, int a, int b) {
    if (Math.min(a, b) < least) {
      return BELOW;
    }
    return Math.max(a, b) > most ? ROOM : 0;
  }

  private static int outside(int least, int most, int v) {
    return either(least, most, v, v);
  }

  private static int each(int most, int a, int b, int c) {
    return either(0, most, Math.min(a, Math.min(b, c)), Math.max(a, Math.max(b, c)));
  }

  private static int noChoice(int what, int last) {
    return what < 0 || what > last ? OTHER : 0;
  }

  private static int noSuch(Table table, int line) {
    return table.has(line) ? 0 : NOBODY;
  }

  private static int noRoom(Table table) {
    return table.full() ? ROOM : 0;
  }

  private int noPart(int part) {
    return noSuch(kitchen.parts, part);
  }

  private int noPartOf(int part, int other) {
    return noPart(part) != 0 ? NOBODY : noPart(other);
  }

  /** One PART told twice is no two PARTS. */
  private int notTwoParts(int part, int other) {
    return part == other ? NOBODY : noPartOf(part, other);
  }

  private int rowNotForParts() {
    return row.size() == kitchen.parts.size() ? 0 : STATE;
  }

  private int partBecomes(int part, int column, int v) {
    int wrong = refused(noPart(part), outside(0, MOST_WHOLES, v));
    return wrong != 0 ? wrong : kitchen.parts.exchange(part, column, v);
  }

  /** Whole-number sums. Every divisor that is not written out as a number is tested here. */
  private static final class Sums {
    private Sums() {
    }

    static int cut(int above, int below) {
      return below < 1 ? 0 : above / below;
    }

    static int rest(int above, int below) {
      return below < 1 ? 0 : above % below;
    }

    /** Nothing less than nought is ever rounded up here: it counts as nought. */
    static int roundedUp(int above, int below) {
      return above < 1 || below < 1 ? 0 : (above + below - 1) / below;
    }

    /** The nearest whole number, of two the less. */
    static int nearest(int above, int below) {
      if (below < 1) {
        return 0;
      }
      int whole = above / below;
      return 2 * (above % below) > below ? whole + 1 : whole;
    }

    static int inLeastTerms(int above, int below, int line) {
      return cut(line == 0 ? above : below, commonDivisor(above, below));
    }

    /** Forty-six steps are the most that two ints can need. */
    private static int commonDivisor(int a, int b) {
      int greater = a;
      int lesser = b;
      for (int i = 0; i < 64 && lesser > 0; i++) {
        int next = rest(greater, lesser);
        greater = lesser;
        lesser = next;
      }
      return greater;
    }
  }

  /** Lines of numbers, with room for so many. Every index of an array is tested here. */
  private static final class Table {
    private final int[] cells;
    private final int room;
    private final int width;
    private int size = 0;

    Table(int room, int width) {
      this.room = Math.max(room, 0);
      this.width = Math.max(width, 1);
      this.cells = new int[Math.max(this.room * this.width, 0)];
    }

    int size() {
      return size;
    }

    boolean full() {
      return size >= room;
    }

    boolean has(int line) {
      return line >= 0 && line < size;
    }

    /** Where there is no such place, 0. */
    int at(int line, int column) {
      boolean there = line >= 0 && line < size && column >= 0 && column < width;
      int place = there ? line * width + column : -1;
      return place >= 0 && place < cells.length ? cells[place] : 0;
    }

    void put(int line, int column, int v) {
      boolean there = line >= 0 && line < size && column >= 0 && column < width;
      int place = there ? line * width + column : -1;
      if (place >= 0 && place < cells.length) {
        cells[place] = v;
      }
    }

    /** Puts v and answers what was there. */
    int exchange(int line, int column, int v) {
      int was = at(line, column);
      put(line, column, v);
      return was;
    }

    boolean holds(int v) {
      for (int i = 0; i < size; i++) {
        if (at(i, 0) == v) {
          return true;
        }
      }
      return false;
    }

    /** A line more, v and noughts: its number, or NONE where there is no room. */
    int add(int v) {
      int place = size * width;
      if (size >= room || place < 0) {
        return NONE;
      }
      for (int i = place; i < place + width && i < cells.length; i++) {
        cells[i] = i == place ? v : 0;
      }
      size++;
      return size - 1;
    }

    void dropLast() {
      size = Math.max(size - 1, 0);
    }

    void dropFirst() {
      for (int i = 1; i < size; i++) {
        for (int column = 0; column < width; column++) {
          put(i - 1, column, at(i, column));
        }
      }
      dropLast();
    }

    /** So many lines, v in all places. */
    void reset(int lines, int v) {
      size = Math.max(Math.min(lines, room), 0);
      for (int i = 0; i < size * width && i < cells.length; i++) {
        cells[i] = v;
      }
    }

    void copyFrom(Table other) {
      size = Math.min(other.size, room);
      for (int i = 0; i < cells.length && i < other.cells.length; i++) {
        cells[i] = other.cells[i];
      }
    }
  }

  /** All that THE IMAGE keeps, and what is TAKEN of its PARTS. */
  private static final class Kitchen {
    private static final int WHOLE = 1;
    private static final int SPOON = 2;
    private static final int PACKET = 3;
    private static final int LOOSE = 4;
    private static final int NEAR = 5;

    int forMany = 6;
    int guests = 4;
    int volume = 120;
    int minutes = 30;
    final Table parts = new Table(8, 7);
    final Table tins = new Table(5, 2);
    final Table standIns = new Table(6, 5);
    final Table cups = new Table(3, 1);
    final Table weights = new Table(5, 1);
    final Table dishes = new Table(4, 5);

    Kitchen() {
      cups.reset(3, 0);
    }

    void copyFrom(Kitchen other) {
      forMany = other.forMany;
      guests = other.guests;
      volume = other.volume;
      minutes = other.minutes;
      parts.copyFrom(other.parts);
      tins.copyFrom(other.tins);
      standIns.copyFrom(other.standIns);
      cups.copyFrom(other.cups);
      weights.copyFrom(other.weights);
      dishes.copyFrom(other.dishes);
    }

    int allHouse() {
      int sum = 0;
      for (int part = 0; part < parts.size(); part++) {
        sum += parts.at(part, HOUSE);
      }
      return sum;
    }

    /** TAKEN, where SHARE is AMOUNT times above by below: guests by FOR, or a SCALE by 24. */
    int taken(int part, int above, int below) {
      int step = parts.at(part, STEP);
      int share = parts.at(part, AMOUNT) * above;
      int whole = 12 * Math.max(1, Sums.nearest(share, below));
      int twelfths = Sums.nearest(12 * share, below);
      switch (parts.at(part, KIND)) {
        case WHOLE: return whole;
        case SPOON: return step * Sums.nearest(12 * share, step * below);
        case PACKET: return 12 * step * Sums.roundedUp(share, step * below);
        case LOOSE: return 12 * parts.at(part, AMOUNT);
        case NEAR: return Math.abs(whole * below - 12 * share) <= step * below ? whole : twelfths;
        default: return twelfths;
      }
    }

    int takenFor(int part, int many) {
      return taken(part, many, forMany);
    }

    int takenNow(int part) {
      return taken(part, guests, forMany);
    }

    /** How far TAKEN is from 12 SHARES, COST aside: what stands above the line below. */
    int offBy(int part, int above, int below) {
      int twelveShares = 12 * parts.at(part, AMOUNT) * above;
      return Math.abs(taken(part, above, below) * below - twelveShares);
    }

    int offAtCost(int part, int above, int below) {
      return offBy(part, above, below) * parts.at(part, COST);
    }

    /** OFF of all for so many: what stands above FOR. */
    int allOff(int many) {
      int sum = 0;
      for (int part = 0; part < parts.size(); part++) {
        sum += offAtCost(part, many, forMany);
      }
      return sum;
    }

    int greatestOff(int above, int below) {
      int greatest = 0;
      for (int part = 0; part < parts.size(); part++) {
        greatest = Math.max(greatest, offAtCost(part, above, below));
      }
      return greatest;
    }

    boolean feeds(int many) {
      for (int part = 0; part < parts.size(); part++) {
        if (12 * parts.at(part, HOUSE) < takenFor(part, many)) {
          return false;
        }
      }
      return true;
    }

    /** LEFT; what is TAKEN of a PACKET needs no rounding to STEPS, being in STEPS already. */
    int left(int part) {
      int opened = 12 * Sums.roundedUp(takenNow(part), 12);
      int eaten = Sums.roundedUp(12 * parts.at(part, AMOUNT) * guests, forMany);
      return Math.max(opened - eaten, 0);
    }
  }

  /** The letters that were told, and how a BOOK is read from them. */
  private static final class Book {
    private static final int WRONG_LETTER = -1000;
    private static final int WRONG_STATEMENT = -2000;

    private final Table letters = new Table(96, 1);
    private final Table told = new Table(5, 1);
    private int place = 0;

    Table letters() {
      return letters;
    }

    /** How many STATEMENTS came to the draft, or the FAULT; the letters are no more then. */
    int tellTo(Kitchen draft) {
      int answer = hasForm() ? statementsTo(draft) : WRONG_LETTER - place;
      letters.reset(0, 0);
      return answer;
    }

    /** Where not, place stands at the first letter with which no BOOK can go on. */
    private boolean hasForm() {
      place = 0;
      for (int i = 0; i <= letters.size(); i++) {
        if (!statementRead()) {
          return false;
        }
        if (place >= letters.size()) {
          return true;
        }
      }
      return false;
    }

    private int statementsTo(Kitchen draft) {
      int statements = 0;
      place = 0;
      for (int i = 0; i < letters.size() && place < letters.size(); i++) {
        int start = place;
        if (!statementRead() || !statementCame(draft, letters.at(start, 0))) {
          return WRONG_STATEMENT - start;
        }
        statements++;
      }
      return statements;
    }

    /** Behind the last letter there stands 0, which fits no form. */
    private boolean statementRead() {
      told.reset(0, 0);
      String form = formOf(letters.at(place, 0));
      for (int i = 0; i < form.length(); i++) {
        if (!signRead(form.charAt(i))) {
          return false;
        }
      }
      return !form.isEmpty();
    }

    /** In a form 1 is a digit, 2 one or two digits, 3 two digits, O an o or a q; others are themselves. */
    private static String formOf(int letter) {
      switch (letter) {
        case 'f': return "f2;";
        case 'p': return "p1112;";
        case 'h': return "h1=2;";
        case 't': return "tO2;";
        case 's': return "s11111;";
        case 'c': return "c333;";
        default: return "";
      }
    }

    private boolean signRead(char sign) {
      switch (sign) {
        case '1': return numberRead(1, 1);
        case '2': return numberRead(1, 2);
        case '3': return numberRead(2, 2);
        case 'O': return shapeRead();
        default: break;
      }
      if (letters.at(place, 0) != sign) {
        return false;
      }
      place++;
      return true;
    }

    private boolean numberRead(int fewest, int most) {
      int value = 0;
      int digits = 0;
      int letter = letters.at(place, 0);
      while (digits < most && letter >= '0' && letter <= '9') {
        value = 10 * value + letter - '0';
        digits++;
        place++;
        letter = letters.at(place, 0);
      }
      told.add(value);
      return digits >= fewest;
    }

    private boolean shapeRead() {
      int letter = letters.at(place, 0);
      if (letter != 'o' && letter != 'q') {
        return false;
      }
      told.add(letter == 'q' ? 1 : 0);
      place++;
      return true;
    }

    private boolean statementCame(Kitchen draft, int letter) {
      switch (letter) {
        case 'f': return forCame(draft);
        case 'p': return partCame(draft);
        case 'h': return houseCame(draft);
        case 't': return tinCame(draft);
        case 's': return standInCame(draft);
        default: return cupsCame(draft);
      }
    }

    private int number(int i) {
      return told.at(i, 0);
    }

    private boolean within(int i, int least, int most) {
      return told.at(i, 0) >= least && told.at(i, 0) <= most;
    }

    private boolean forCame(Kitchen draft) {
      if (!within(0, 1, MOST_GUESTS)) {
        return false;
      }
      draft.forMany = number(0);
      return true;
    }

    private boolean partCame(Kitchen draft) {
      boolean right = within(KIND, 0, Kitchen.NEAR) && within(STEP, 1, 9) && within(AMOUNT, 1, MOST_WHOLES);
      return right && lineCame(draft.parts);
    }

    private boolean houseCame(Kitchen draft) {
      if (!draft.parts.has(number(0))) {
        return false;
      }
      draft.parts.put(number(0), HOUSE, number(1));
      return true;
    }

    private boolean tinCame(Kitchen draft) {
      return within(SIZE, 1, 30) && lineCame(draft.tins);
    }

    private boolean standInCame(Kitchen draft) {
      int part = number(STEAD_FOR);
      int other = number(STEAD_OF);
      boolean right = draft.parts.has(part) && draft.parts.has(other) && part != other
          && within(STEAD_TAKES, 1, 9) && within(STEAD_MAKES, 1, 9);
      return right && !standsInAlready(draft.standIns, part, other) && lineCame(draft.standIns);
    }

    private static boolean standsInAlready(Table standIns, int part, int other) {
      for (int i = 0; i < standIns.size(); i++) {
        if (standIns.at(i, STEAD_FOR) == part && standIns.at(i, STEAD_OF) == other) {
          return true;
        }
      }
      return false;
    }

    private boolean cupsCame(Kitchen draft) {
      for (int cup = 0; cup < 3; cup++) {
        if (!within(cup, 0, MOST_OUNCES)) {
          return false;
        }
        draft.cups.put(cup, 0, number(cup));
      }
      return true;
    }

    /** The numbers of a STATEMENT stand in the order of the columns of what it tells. */
    private boolean lineCame(Table table) {
      int line = table.add(told.at(0, 0));
      for (int column = 1; column < told.size(); column++) {
        table.put(line, column, told.at(column, 0));
      }
      return line != NONE;
    }
  }

  /** Numbers of guests, of bakings, of lots. */
  private static final class Reckoning {
    private Reckoning() {
    }

    static int leastOff(Kitchen kitchen, int from, int to) {
      int best = from;
      for (int many = from + 1; many <= to; many++) {
        if (kitchen.allOff(many) < kitchen.allOff(best)) {
          best = many;
        }
      }
      return best;
    }

    /** OUT: the i-th number, NONE beyond the last; how many there are where i is -1. */
    static int comesOut(Kitchen kitchen, int i) {
      int found = 0;
      for (int many = 1; many <= MOST_GUESTS; many++) {
        if (noneIsOff(kitchen, many)) {
          if (found == i) {
            return many;
          }
          found++;
        }
      }
      return i < 0 ? found : NONE;
    }

    private static boolean noneIsOff(Kitchen kitchen, int many) {
      for (int part = 0; part < kitchen.parts.size(); part++) {
        if (kitchen.offBy(part, many, kitchen.forMany) != 0) {
          return false;
        }
      }
      return true;
    }

    static int bestScale(Kitchen kitchen, int from, int to) {
      int best = from;
      int least = kitchen.greatestOff(from, 24);
      for (int scale = from + 1; scale <= to; scale++) {
        int greatest = kitchen.greatestOff(scale, 24);
        if (greatest < least) {
          best = scale;
          least = greatest;
        }
      }
      return best;
    }

    static int mostFed(Kitchen kitchen) {
      for (int many = MOST_GUESTS; many >= 1; many--) {
        if (kitchen.feeds(many)) {
          return many;
        }
      }
      return 0;
    }

    static int numberFor(Kitchen kitchen, int part, int wholes) {
      int up = Sums.roundedUp(wholes * kitchen.forMany, kitchen.parts.at(part, AMOUNT));
      int number = Math.max(up, 1);
      return number > MOST_IN_MISTAKE ? NONE : number;
    }

    static int moreOf(Kitchen kitchen, int part, int wholes, int other) {
      int number = numberFor(kitchen, part, wholes);
      if (number == NONE) {
        return NONE;
      }
      int twelveShares = 12 * kitchen.parts.at(other, AMOUNT) * number;
      int already = kitchen.takenNow(other) * kitchen.forMany;
      return Sums.roundedUp(twelveShares - already, 12 * kitchen.forMany);
    }

    /** As x's rise, the first found has the fewest of them. */
    static int lotsFor(int guests, int x, int y) {
      int best = NONE;
      int leastAbove = BEYOND_ALL;
      int fewest = BEYOND_ALL;
      for (int ofX = 0; ofX <= MOST_GUESTS; ofX++) {
        for (int ofY = 0; ofY <= MOST_GUESTS; ofY++) {
          int above = ofX * x + ofY * y - guests;
          boolean fewer = above == leastAbove && ofX + ofY < fewest;
          if (above >= 0 && (above < leastAbove || fewer)) {
            best = 100 * ofX + ofY;
            leastAbove = above;
            fewest = ofX + ofY;
          }
        }
      }
      return best;
    }

    static int bakingsOff(Kitchen kitchen, int bakings, int seed) {
      int sum = 0;
      int z = seed;
      for (int i = 0; i < bakings; i++) {
        z = nextSeed(z);
        sum += kitchen.allOff(guestsBy(z));
      }
      return sum;
    }

    static int bakingsFed(Kitchen kitchen, int bakings, int seed) {
      int fed = 0;
      int z = seed;
      for (int i = 0; i < bakings; i++) {
        z = nextSeed(z);
        if (kitchen.feeds(guestsBy(z))) {
          fed++;
        }
      }
      return fed;
    }

    private static int nextSeed(int z) {
      return z * 1103515245 + 12345;
    }

    private static int guestsBy(int z) {
      return (z & ALL_BUT_THE_SIGN) / 65536 % 24 + 1;
    }

    /** 100 times x, and y; as x's fall, the first found has the most of them. */
    static int bothRecipes(Kitchen kitchen) {
      int best = 0;
      int most = -1;
      for (int x = MOST_GUESTS; x >= 0; x--) {
        for (int y = MOST_GUESTS; y >= 0; y--) {
          if (x + y > most && bothFit(kitchen, x, y)) {
            best = 100 * x + y;
            most = x + y;
          }
        }
      }
      return best;
    }

    private static boolean bothFit(Kitchen kitchen, int x, int y) {
      for (int part = 0; part < kitchen.parts.size(); part++) {
        int shares = kitchen.parts.at(part, AMOUNT) * x + kitchen.parts.at(part, ALSO) * y;
        if (shares > kitchen.parts.at(part, HOUSE) * kitchen.forMany) {
          return false;
        }
      }
      return true;
    }

    /** All SHARES have the same guests by FOR, so AMOUNT times COST tells which is most. */
    static int worstForgotten(Kitchen kitchen) {
      int worst = NONE;
      int most = 0;
      for (int part = 0; part < kitchen.parts.size(); part++) {
        int off = kitchen.parts.at(part, AMOUNT) * kitchen.parts.at(part, COST);
        if (off > most) {
          worst = part;
          most = off;
        }
      }
      return worst;
    }
  }

  /** AREAS are in fourteenths; they, not DEPTHS, are compared: VOLUME stands on both sides. */
  private static final class Tins {
    private Tins() {
    }

    static int area(Kitchen kitchen, int tin) {
      int size = kitchen.tins.at(tin, SIZE);
      return (kitchen.tins.at(tin, SQUARE) == 1 ? 14 : 11) * size * size;
    }

    /** LONG: DEEP here by DEEP in TIN 0 is guests by FOR times AREA of TIN 0 by AREA of this one. */
    static int minutesIn(Kitchen kitchen, int tin) {
      int above = kitchen.minutes * kitchen.guests * area(kitchen, 0);
      int minutes = Sums.nearest(above, kitchen.forMany * area(kitchen, tin));
      return Math.min(Math.max(minutes, Math.max(kitchen.minutes / 3, 1)), 999);
    }

    static int nearestTin(Kitchen kitchen) {
      int best = NONE;
      for (int tin = 0; tin < kitchen.tins.size(); tin++) {
        if (best == NONE || isNearer(kitchen, tin, best)) {
          best = tin;
        }
      }
      return best;
    }

    private static boolean isNearer(Kitchen kitchen, int tin, int best) {
      return depthApart(kitchen, tin) * area(kitchen, best) < depthApart(kitchen, best) * area(kitchen, tin);
    }

    /** How far DEEP is from what is right, times what is the same for all TINS, times AREA. */
    private static long depthApart(Kitchen kitchen, int tin) {
      return Math.abs(kitchen.guests * area(kitchen, 0) - kitchen.forMany * area(kitchen, tin));
    }

    static int nearestPair(Kitchen kitchen) {
      int best = NONE;
      int nearest = BEYOND_ALL;
      for (int one = 0; one < kitchen.tins.size(); one++) {
        for (int other = one + 1; other < kitchen.tins.size(); other++) {
          int together = (area(kitchen, one) + area(kitchen, other)) * kitchen.forMany;
          int apart = Math.abs(together - area(kitchen, 0) * kitchen.guests);
          if (apart < nearest) {
            best = 10 * one + other;
            nearest = apart;
          }
        }
      }
      return best;
    }
  }

  /** What the HOUSE lacks, what stands in for it, what it costs; what is LEFT over. */
  private static final class Stores {
    private static final int NEVER = 1000000;

    /** The least LOSS by which so many wholes are made. */
    private final Table leastLoss = new Table(MOST_WHOLES + 1, 1);

    static int lackingParts(Kitchen kitchen) {
      int bits = 0;
      for (int part = 0; part < kitchen.parts.size(); part++) {
        if (wholesLacking(kitchen, part, kitchen.guests) > 0) {
          bits |= 1 << part;
        }
      }
      return bits;
    }

    private static int wholesLacking(Kitchen kitchen, int part, int many) {
      int twelfths = kitchen.takenFor(part, many) - 12 * kitchen.parts.at(part, HOUSE);
      return Sums.roundedUp(twelfths, 12);
    }

    int leastLoss(Kitchen kitchen, int part) {
      int lack = wholesLacking(kitchen, part, kitchen.guests);
      if (lack > MOST_WHOLES) {
        return NONE;
      }
      leastLoss.reset(lack + 1, NEVER);
      leastLoss.put(0, 0, 0);
      for (int i = 0; i < kitchen.standIns.size(); i++) {
        if (kitchen.standIns.at(i, STEAD_FOR) == part) {
          letStandIn(kitchen, i, lack);
        }
      }
      int loss = leastLoss.at(lack, 0);
      return loss >= NEVER ? NONE : loss;
    }

    /** Once, twice, four times .. and the rest together make every number of times that it lets. */
    private void letStandIn(Kitchen kitchen, int standIn, int lack) {
      int makes = kitchen.standIns.at(standIn, STEAD_MAKES);
      int loss = kitchen.standIns.at(standIn, STEAD_LOSS);
      int times = timesThatItLets(kitchen, standIn);
      for (int together = 1; together <= MOST_WHOLES && times > 0; together *= 2) {
        int now = Math.min(together, times);
        letMake(now * makes, now * loss, lack);
        times -= now;
      }
    }

    /** From the most wholes down, so that it is used but once. */
    private void letMake(int makes, int loss, int lack) {
      for (int wholes = lack; wholes >= 1; wholes--) {
        int with = leastLoss.at(Math.max(wholes - makes, 0), 0) + loss;
        leastLoss.put(wholes, 0, Math.min(leastLoss.at(wholes, 0), with));
      }
    }

    private static int timesThatItLets(Kitchen kitchen, int standIn) {
      int other = kitchen.standIns.at(standIn, STEAD_OF);
      int spare = kitchen.parts.at(other, HOUSE) - Sums.roundedUp(kitchen.takenNow(other), 12);
      return Sums.cut(Math.max(spare, 0), kitchen.standIns.at(standIn, STEAD_TAKES));
    }

    static int penceFor(Kitchen kitchen, int many) {
      int pence = 0;
      for (int part = 0; part < kitchen.parts.size(); part++) {
        int wholes = wholesLacking(kitchen, part, many);
        if (kitchen.parts.at(part, KIND) == Kitchen.PACKET) {
          int step = kitchen.parts.at(part, STEP);
          wholes = step * Sums.roundedUp(wholes, step);
        }
        pence += wholes * kitchen.parts.at(part, PRICE);
      }
      return pence;
    }

    /** BUY by g: the pence of each guest are compared. */
    static int leastPence(Kitchen kitchen, int from, int to) {
      int best = from;
      int least = penceFor(kitchen, from);
      for (int many = from + 1; many <= to; many++) {
        int pence = penceFor(kitchen, many);
        if (pence * best < least * many) {
          best = many;
          least = pence;
        }
      }
      return best;
    }

    static int moreGuests(Kitchen kitchen) {
      for (int many = MOST_GUESTS; many > 0; many--) {
        if (leftFeeds(kitchen, many)) {
          return many;
        }
      }
      return 0;
    }

    private static boolean leftFeeds(Kitchen kitchen, int many) {
      for (int part = 0; part < kitchen.parts.size(); part++) {
        int twelveShares = 12 * kitchen.parts.at(part, AMOUNT) * many;
        if (twelveShares > kitchen.left(part) * kitchen.forMany) {
          return false;
        }
      }
      return true;
    }

    static int worthiestSet(Kitchen kitchen) {
      int best = 0;
      int sets = 1 << kitchen.dishes.size();
      for (int set = 1; set < sets; set++) {
        if (worthOf(kitchen, set) > worthOf(kitchen, best) && leftIsEnough(kitchen, set)) {
          best = set;
        }
      }
      return best;
    }

    static int worthOf(Kitchen kitchen, int set) {
      int worth = 0;
      for (int dish = 0; dish < kitchen.dishes.size(); dish++) {
        worth += (set >> dish & 1) * kitchen.dishes.at(dish, DISH_WORTH);
      }
      return worth;
    }

    private static boolean leftIsEnough(Kitchen kitchen, int set) {
      for (int part = 0; part < kitchen.parts.size(); part++) {
        if (twelfthsOf(kitchen.dishes, set, part) > kitchen.left(part)) {
          return false;
        }
      }
      return true;
    }

    /** A DISH may take of one PART twice. */
    private static int twelfthsOf(Table dishes, int set, int part) {
      int sum = 0;
      for (int dish = 0; dish < dishes.size(); dish++) {
        if ((set >> dish & 1) == 1) {
          sum += dishes.at(dish, DISH_PART) == part ? dishes.at(dish, DISH_TWELFTHS) : 0;
          sum += dishes.at(dish, DISH_OTHER) == part ? dishes.at(dish, DISH_MORE) : 0;
        }
      }
      return sum;
    }
  }

  /** A state tells what is in the three CUPS; all that can come are sought in the order of PATH. */
  private static final class Pouring {
    private static final int LEVELS = MOST_OUNCES + 1;
    private static final int STATES = LEVELS * LEVELS * LEVELS;
    private static final int FILLED = 100;
    private static final int EMPTIED = 200;
    private static final int POURED = 300;
    private static final int BEFORE = 0;
    private static final int BY_STEP = 1;

    /** The states in the order in which they came, and by which step from which each did. */
    private final Table came = new Table(STATES, 1);
    private final Table ways = new Table(STATES, 2);

    int fewestTo(Table cups, int ounces) {
      seekAll(cups);
      return stepsTo(firstWith(ounces));
    }

    int fewestToAll(Table cups, int one, int two, int three) {
      seekAll(cups);
      return stepsTo(one + unit(1) * two + unit(2) * three);
    }

    int stepOf(Table cups, int ounces, int i) {
      seekAll(cups);
      int state = firstWith(ounces);
      int steps = stepsTo(state);
      if (i >= steps) {
        return NONE;
      }
      for (int last = steps - 1; last > i; last--) {
        state = ways.at(state, BEFORE);
      }
      return ways.at(state, BY_STEP);
    }

    private void seekAll(Table cups) {
      came.reset(0, 0);
      ways.reset(STATES, NONE);
      comes(0, 0, 0);
      for (int i = 0; i < STATES && i < came.size(); i++) {
        for (int cup = 0; cup < 3; cup++) {
          goOnFrom(came.at(i, 0), cup, cups);
        }
      }
    }

    private void goOnFrom(int state, int cup, Table cups) {
      int level = levelOf(state, cup);
      int emptied = state - level * unit(cup);
      comes(emptied + cups.at(cup, 0) * unit(cup), state, FILLED + cup);
      comes(emptied, state, EMPTIED + cup);
      for (int other = 0; other < 3; other++) {
        if (other != cup) {
          int poured = Math.min(level, cups.at(other, 0) - levelOf(state, other));
          int next = state - poured * unit(cup) + poured * unit(other);
          comes(next, state, POURED + 10 * other + cup);
        }
      }
    }

    private void comes(int state, int before, int step) {
      if (ways.at(state, BEFORE) == NONE) {
        ways.put(state, BEFORE, before);
        ways.put(state, BY_STEP, step);
        came.add(state);
      }
    }

    private int firstWith(int ounces) {
      for (int i = 0; i < came.size(); i++) {
        int state = came.at(i, 0);
        if (levelOf(state, 0) == ounces || levelOf(state, 1) == ounces || levelOf(state, 2) == ounces) {
          return state;
        }
      }
      return NONE;
    }

    /** All empty is state 0, with which every way begins. */
    private int stepsTo(int goal) {
      if (goal < 0 || ways.at(goal, BEFORE) == NONE) {
        return NONE;
      }
      int steps = 0;
      int state = goal;
      while (steps < STATES && state != 0) {
        state = ways.at(state, BEFORE);
        steps++;
      }
      return steps;
    }

    private static int unit(int cup) {
      return cup == 0 ? 1 : cup == 1 ? LEVELS : LEVELS * LEVELS;
    }

    private static int levelOf(int state, int cup) {
      return Sums.cut(state, unit(cup)) % LEVELS;
    }
  }

  /** WEIGHTS on both pans of a balance. */
  private static final class Balance {
    private static final int MOST = 200;
    private static final int PAN = 32;
    private static final int HOW = PAN * PAN;

    /** For each number of ounces HOW times the fewest WEIGHTS, and how they stand: so the least is due. */
    private final Table ways = new Table(MOST + 1, 1);

    int weighing(Table weights, int ounces, int what) {
      seekAll(weights);
      int way = ways.at(ounces, 0);
      if (way == NONE) {
        return NONE;
      }
      return what == 0 ? way / HOW : way % HOW;
    }

    int weighable(Table weights) {
      seekAll(weights);
      int found = 0;
      for (int ounces = 1; ounces <= MOST; ounces++) {
        if (ways.at(ounces, 0) != NONE) {
          found++;
        }
      }
      return found;
    }

    private void seekAll(Table weights) {
      ways.reset(MOST + 1, NONE);
      int sets = 1 << weights.size();
      for (int opposite = 1; opposite < sets; opposite++) {
        for (int beside = 0; beside < sets; beside++) {
          if ((opposite & beside) == 0) {
            seen(weights, opposite, beside);
          }
        }
      }
    }

    private void seen(Table weights, int opposite, int beside) {
      int ounces = weightOf(weights, opposite) - weightOf(weights, beside);
      int way = HOW * Integer.bitCount(opposite | beside) + opposite + PAN * beside;
      int best = ways.at(ounces, 0);
      if (best == NONE || way < best) {
        ways.put(ounces, 0, way);
      }
    }

    private static int weightOf(Table weights, int set) {
      int sum = 0;
      for (int i = 0; i < weights.size(); i++) {
        if ((set >> i & 1) == 1) {
          sum += weights.at(i, 0);
        }
      }
      return sum;
    }
  }

  /** What a ROW of numbers of PARTS tells of a cake. */
  private static final class CakeReader {
    private CakeReader() {
    }

    static int numbersSo(Kitchen kitchen, Table row) {
      int bits = 0;
      for (int many = 1; many <= MOST_GUESTS; many++) {
        if (allSo(kitchen, row, many)) {
          bits |= 1 << many - 1;
        }
      }
      return bits;
    }

    private static boolean allSo(Kitchen kitchen, Table row, int many) {
      for (int part = 0; part < kitchen.parts.size(); part++) {
        if (!isSo(kitchen, row, part, many)) {
          return false;
        }
      }
      return true;
    }

    private static boolean isSo(Kitchen kitchen, Table row, int part, int many) {
      return kitchen.takenFor(part, many) / 12 == row.at(part, 0);
    }

    private static boolean isHalved(Kitchen kitchen, Table row, int part) {
      return isSo(kitchen, row, part, kitchen.guests);
    }

    private static boolean isAmount(Kitchen kitchen, Table row, int part) {
      return kitchen.parts.at(part, AMOUNT) == row.at(part, 0);
    }

    static int halvedParts(Kitchen kitchen, Table row) {
      int bits = 0;
      for (int part = 0; part < kitchen.parts.size(); part++) {
        bits |= isHalved(kitchen, row, part) ? 1 << part : 0;
      }
      return bits;
    }

    static int amountParts(Kitchen kitchen, Table row) {
      int bits = 0;
      for (int part = 0; part < kitchen.parts.size(); part++) {
        bits |= isAmount(kitchen, row, part) ? 1 << part : 0;
      }
      return bits;
    }

    static int firstNeither(Kitchen kitchen, Table row) {
      for (int part = 0; part < kitchen.parts.size(); part++) {
        if (!isHalved(kitchen, row, part) && !isAmount(kitchen, row, part)) {
          return part;
        }
      }
      return NONE;
    }
  }

  /** A ROW of MINUTES: on the shelves of an OVEN, of those who want to help. */
  private static final class Minutes {
    /** How long each shelf is busy. */
    private final Table busy = new Table(3, 1);

    int oneBehindTheOther(Table row, int shelves) {
      busy.reset(shelves, 0);
      for (int i = 0; i < row.size(); i++) {
        putOn(freeFirst(), row.at(i, 0));
      }
      return allDone();
    }

    private int freeFirst() {
      int first = 0;
      for (int shelf = 1; shelf < busy.size(); shelf++) {
        if (busy.at(shelf, 0) < busy.at(first, 0)) {
          first = shelf;
        }
      }
      return first;
    }

    /** All ways are gone through as rising numbers, so the first that is the least is due. */
    int soonest(Table row, int shelves, boolean wayAsked) {
      int way = 0;
      int best = 0;
      int least = oneBehindTheOther(row, 1);
      busy.reset(shelves, 0);
      putOn(0, least);
      for (int ways = waysOf(row, shelves); ways > 1; ways--) {
        way = nextWay(row, shelves, way);
        if (allDone() < least) {
          best = way;
          least = allDone();
        }
      }
      return wayAsked ? best : least;
    }

    private static int waysOf(Table row, int shelves) {
      int ways = 1;
      for (int i = 0; i < row.size(); i++) {
        ways *= shelves;
      }
      return ways;
    }

    /** Counts one on in digits to the base 4 of which each is a shelf, and moves what changes its shelf. */
    private int nextWay(Table row, int shelves, int way) {
      int next = way;
      for (int i = 0; i < row.size(); i++) {
        int from = next >> 2 * i & 3;
        int to = from + 1 < shelves ? from + 1 : 0;
        putOn(from, -row.at(i, 0));
        putOn(to, row.at(i, 0));
        next += to - from << 2 * i;
        if (to > 0) {
          return next;
        }
      }
      return next;
    }

    private void putOn(int shelf, int minutes) {
      busy.put(shelf, 0, busy.at(shelf, 0) + minutes);
    }

    private int allDone() {
      int done = 0;
      for (int shelf = 0; shelf < busy.size(); shelf++) {
        done = Math.max(done, busy.at(shelf, 0));
      }
      return done;
    }

    /** FAIR: the first one's bit is the lowest, so his groups are the odd ones. */
    static int groupOfFirst(Table row) {
      int best = 1;
      for (int group = 3; group < 1 << row.size(); group += 2) {
        if (groupsApart(row, group) < groupsApart(row, best)) {
          best = group;
        }
      }
      return best;
    }

    static int groupsApart(Table row, int group) {
      int apart = 0;
      for (int i = 0; i < row.size(); i++) {
        apart += (group >> i & 1) == 1 ? row.at(i, 0) : -row.at(i, 0);
      }
      return Math.abs(apart);
    }
  }
}
