import java.util.Arrays;

/** A street whose houses have numbers by when they were built; ../shared/DOC.md says what each call answers. */
public final class NumberedByAge {
  private static final int PLOTS = 12;
  private static final int ALL_PLOTS = (1 << PLOTS) - 1;
  private static final int QUARTER_SIZE = 4;
  private static final int QUARTERS = 3;
  private static final int MOST_EVENTS = 30;
  private static final int MOST_HEIGHT = 9;
  private static final int MOST_FIGURE = 9;
  private static final int MOST_IN_ORDER = 7;
  private static final int MOST_JOINED = 20;
  private static final int SHELVES = 8;
  private static final int MOST_ELEMENTS = 100;

  private static final int LAW = 0;
  private static final int GAP = 1;
  private static final int QUARTER = 2;
  private static final int HIGH = 3;
  private static final int TWICE = 4;
  private static final int SKIP = 5;
  private static final int LAST = 6;
  private static final int SIDE = 7;
  private static final int KINDS = 8;

  private static final int BYTES = 0;
  private static final int SHORTS = 1;
  private static final int INTS = 2;

  private static final int NO_SUCH_THING = -1;
  private static final int NO_ROOM = -2;
  private static final int CANNOT_BE = -3;
  private static final int NONE = -4;
  private static final int NOTHING_HELD = -11;
  private static final int OTHER_KIND = -12;
  private static final int NO_SUCH_PLACE = -13;
  private static final int SIZE_BELOW_0 = -14;
  private static final int NO_FAILURE = -15;

  private static final int FAULT = -1000;
  private static final int NOWHERE = -1;

  private final Street town = new Street();
  private final Street mind = new Street();
  private final Street image = new Street();
  private boolean imageTaken;
  private final Shelf[] shelves = new Shelf[SHELVES];

  public NumberedByAge() {
    for (int d = 0; d < shelves.length; d++) {
      shelves[d] = new Shelf();
    }
  }

  // ---- streets

  public int street(int d) {
    Shelf text = shelfAt(d);
    if (text == null) {
      return NO_SUCH_THING;
    }
    int refusal = text.refusalAsRowOf(BYTES);
    if (refusal != 0) {
      return refusal;
    }
    int stuck = stuckAt(text);
    if (stuck != NOWHERE) {
      return FAULT - stuck;
    }
    return carryOut(text);
  }

  public int build(int plot, int height) {
    return town.raise(plot, height);
  }

  public int burn(int plot) {
    return town.raze(plot);
  }

  public int enact(int d) {
    Shelf shelf = shelfAt(d);
    if (shelf == null) {
      return NO_SUCH_THING;
    }
    Law law = shelf.law;
    if (law == null) {
      return shelf.refusalAsLaw();
    }
    int before = town.law.kind;
    town.law = law;
    return before;
  }

  public int house(int plot, int what) {
    if (!isPlot(plot) || what < 0 || what > 2) {
      return NO_SUCH_THING;
    }
    if (!town.hasHouse(plot)) {
      return NONE;
    }
    switch (what) {
      case 0:
        return town.numberAt(plot);
      case 1:
        return town.heightAt(plot);
      default:
        return town.ageAt(plot);
    }
  }

  // ---- numbers

  public int have(int number) {
    return number < 1 ? NO_SUCH_THING : town.plotsWith(number);
  }

  public int would(int plot, int height) {
    return isPlot(plot) && isHeight(height) ? town.law.numberFor(town, plot, height) : NO_SUCH_THING;
  }

  public int where(int number, int height) {
    if (number < 1 || !isHeight(height)) {
      return NO_SUCH_THING;
    }
    int plots = 0;
    for (int plot = 0; plot < PLOTS; plot++) {
      if (!town.hasHouse(plot) && town.law.numberFor(town, plot, height) == number) {
        plots |= 1 << plot;
      }
    }
    return plots;
  }

  public int letter(int n) {
    if (n < 1 || n > PLOTS) {
      return NO_SUCH_THING;
    }
    for (int plot = 0; plot < PLOTS; plot++) {
      if (town.hasHouse(plot) && town.builtAheadOf(plot) == n - 1) {
        return plot;
      }
    }
    return NONE;
  }

  public int gaps() {
    return town.freeNumbers();
  }

  // ---- walks

  public int walk(int d, int plot) {
    return wayBy(d, plot, true);
  }

  public int search(int d, int plot) {
    return wayBy(d, plot, false);
  }

  public int rise() {
    return town.longestRise();
  }

  public int falls() {
    return town.pairsNotRising();
  }

  // ---- laws, orders, towns

  public int byLaw(int plot, int kind, int figure) {
    Law law = lawOf(kind, figure);
    if (!isPlot(plot) || law == null) {
      return NO_SUCH_THING;
    }
    if (!town.hasHouse(plot)) {
      return NONE;
    }
    mind.goThrough(town, law);
    return mind.numberAt(plot);
  }

  public int laws(int figure) {
    int kinds = 0;
    for (int kind = 0; kind < KINDS; kind++) {
      Law law = lawOf(kind, figure);
      if (law == null) {
        return NO_SUCH_THING;
      }
      mind.goThrough(town, law);
      if (mind.hasNumbersOf(town)) {
        kinds |= 1 << kind;
      }
    }
    return kinds;
  }

  public int orders(int what) {
    if (what < 0 || what > 1) {
      return NO_SUCH_THING;
    }
    int houses = town.houses();
    if (houses > MOST_IN_ORDER) {
      return NO_ROOM;
    }
    mind.clear(town.law);
    return what == 0 ? ordersFrom(mind, town, houses) : firstInOrder(houses);
  }

  public int joined(int d, int what) {
    Shelf told = shelfAt(d);
    if (told == null || what < 0 || what > 1) {
      return NO_SUCH_THING;
    }
    int refusal = told.refusalAsRowOf(SHORTS);
    if (refusal != 0) {
      return refusal;
    }
    if (!isTown(told)) {
      return NO_SUCH_PLACE;
    }
    return what == 0 ? sharedIfRaised(told, 0) : leastRaise(told);
  }

  public int seeded(int n, int z, int what) {
    if (n < 1 || n > MOST_EVENTS || what < 0 || what > 1) {
      return NO_SUCH_THING;
    }
    mind.clear(town.law);
    int seed = z;
    for (int i = 0; i < n; i++) {
      seed = nextSeed(seed);
      int plot = drawnBits(seed) % PLOTS;
      seed = nextSeed(seed);
      int height = drawnBits(seed) % MOST_HEIGHT + 1;
      if (mind.hasHouse(plot)) {
        mind.raze(plot);
      } else {
        mind.raise(plot, height);
      }
    }
    return what == 0 ? mind.freeNumbers() : mind.longestRise();
  }

  public int judge(int d) {
    Shelf told = shelfAt(d);
    if (told == null) {
      return NO_SUCH_THING;
    }
    int refusal = told.refusalAsRow();
    if (refusal != 0) {
      return refusal;
    }
    int skipped = told.leastOfSort();
    for (int plot = 0; plot < PLOTS && plot < told.size; plot++) {
      int number = told.at(plot);
      if (number != skipped && number != town.numberAt(plot)) {
        return plot;
      }
    }
    return told.size == PLOTS ? NONE : Math.min(told.size, PLOTS);
  }

  // ---- the image, what is told

  public int image() {
    image.become(town);
    imageTaken = true;
    return town.events;
  }

  public int restore() {
    if (!imageTaken) {
      return CANNOT_BE;
    }
    town.become(image);
    return town.events;
  }

  public int count(int what) {
    switch (what) {
      case 0:
        return town.houses();
      case 1:
        return town.events;
      case 2:
        return town.built;
      case 3:
        return town.greatest();
      case 4:
        return town.law.kind;
      case 5:
        return town.law.figure;
      default:
        return NO_SUCH_THING;
    }
  }

  // ---- shelves

  public int keep(int d, int what, int k, int figure) {
    Shelf shelf = shelfAt(d);
    if (shelf == null || what < 0 || what > 1) {
      return NO_SUCH_THING;
    }
    if (what == 0) {
      shelf.hold(null);
      return 0;
    }
    Law law = lawOf(k, figure);
    if (law == null) {
      return NO_SUCH_THING;
    }
    shelf.hold(law);
    return 0;
  }

  public int row(int d, int sort, int n) {
    Shelf shelf = shelfAt(d);
    if (shelf == null || sort < BYTES || sort > INTS || n > MOST_ELEMENTS) {
      return NO_SUCH_THING;
    }
    if (n < 0) {
      return SIZE_BELOW_0;
    }
    shelf.holdRow(sort, n);
    return 0;
  }

  public int put(int d, int i, int v) {
    Shelf shelf = shelfAt(d);
    if (shelf == null) {
      return NO_SUCH_THING;
    }
    int refusal = shelf.refusalAsRow();
    if (refusal != 0) {
      return refusal;
    }
    if (!shelf.hasPlace(i)) {
      return NO_SUCH_PLACE;
    }
    shelf.set(i, v);
    return 0;
  }

  public long element(int d, int i) throws IllegalArgumentException, IllegalStateException {
    Shelf shelf = shelfAt(d);
    if (shelf == null) {
      throw new IllegalArgumentException("there is no such SHELF");
    }
    if (!shelf.holdsRow() || !shelf.hasPlace(i)) {
      throw new IllegalStateException("there is no ROW with such a place");
    }
    return shelf.at(i);
  }

  public int copy(int d, int i, int e, int j, int n) {
    Shelf from = shelfAt(d);
    Shelf to = shelfAt(e);
    if (from == null || to == null) {
      return NO_SUCH_THING;
    }
    if (from.holdsNothing() || to.holdsNothing()) {
      return NOTHING_HELD;
    }
    if (!from.holdsRow() || from.sort != to.sort) {
      return OTHER_KIND;
    }
    if (!from.hasPlaces(i, n) || !to.hasPlaces(j, n)) {
      return NO_SUCH_PLACE;
    }
    System.arraycopy(from.elements, i, to.elements, j, n);
    return n;
  }

  public int tax(int d) {
    Shelf shelf = shelfAt(d);
    if (shelf == null) {
      return NO_SUCH_THING;
    }
    Law law = shelf.law;
    return law == null ? shelf.refusalAsLaw() : law.levy();
  }

  public int toss(int d) {
    Shelf shelf = shelfAt(d);
    if (shelf == null) {
      return NO_SUCH_THING;
    }
    Law law = shelf.law;
    return law == null ? shelf.refusalAsLaw() : caughtFailure(law);
  }

  // ---- what is in range

  private static boolean isPlot(int plot) {
    return plot >= 0 && plot < PLOTS;
  }

  private static boolean isHeight(int height) {
    return height >= 1 && height <= MOST_HEIGHT;
  }

  /** The SHELF d; null: there is none. */
  private Shelf shelfAt(int d) {
    return d >= 0 && d < shelves.length ? shelves[d] : null;
  }

  /** A LAW of a KIND with a FIGURE; null: one of them is out of range. */
  private static Law lawOf(int kind, int figure) {
    if (figure < 0 || figure > MOST_FIGURE) {
      return null;
    }
    switch (kind) {
      case LAW:
        return new Law(kind, figure);
      case GAP:
        return new Gap(kind, figure);
      case QUARTER:
        return new Quarter(kind, figure);
      case HIGH:
        return new High(kind, figure);
      case TWICE:
        return new Twice(kind, figure);
      case SKIP:
        return new Skip(kind, figure);
      case LAST:
        return new Last(kind, figure);
      case SIDE:
        return new Side(kind, figure);
      default:
        return null;
    }
  }

  // ---- the text of a STREET

  /** The first place at which no STREET can go on; NOWHERE: the text is one. */
  private static int stuckAt(Shelf text) {
    int at = 0;
    for (int statements = 0; statements < text.size && at < text.size; statements++) {
      int stuck = stuckInStatement(text, at);
      if (stuck != NOWHERE) {
        return stuck;
      }
      at += lengthOf(text.at(at));
    }
    return text.size == 0 ? 0 : NOWHERE;
  }

  private static int stuckInStatement(Shelf text, int start) {
    int digits = digitsBehind(text.at(start));
    if (digits == 0) {
      return start;
    }
    int end = start + digits + 1;
    for (int at = start + 1; at < end; at++) {
      // Behind the last element at() answers 0, so a text that ends too early is stuck at its size.
      if (text.at(at) < '0' || text.at(at) > '9') {
        return at;
      }
    }
    return text.at(end) == ';' ? NOWHERE : end;
  }

  /** How many digits stand behind a STATEMENT's letter; 0: it is none. */
  private static int digitsBehind(int letter) {
    switch (letter) {
      case 'b':
        return 3;
      case 'f':
      case 'l':
        return 2;
      default:
        return 0;
    }
  }

  private static int lengthOf(int letter) {
    return digitsBehind(letter) + 2;
  }

  /** Tries all STATEMENTS in mind first, for with a FAULT nothing of them comes. */
  private int carryOut(Shelf text) {
    mind.become(town);
    int at = 0;
    int statements = 0;
    while (statements < text.size && at < text.size) {
      if (!isCarriedOut(text, at)) {
        return 2 * FAULT - at;
      }
      at += lengthOf(text.at(at));
      statements++;
    }
    town.become(mind);
    return statements;
  }

  private boolean isCarriedOut(Shelf text, int start) {
    int first = text.at(start + 1) - '0';
    int second = text.at(start + 2) - '0';
    switch (text.at(start)) {
      case 'b':
        return mind.raise(first * 10 + second, text.at(start + 3) - '0') > 0;
      case 'f':
        return mind.raze(first * 10 + second) > 0;
      default:
        Law law = lawOf(first, second);
        if (law == null) {
          return false;
        }
        mind.law = law;
        return true;
    }
  }

  // ---- ways along the street

  /** The way by the ROW in a SHELF, of one who knows the street or of one who does not. */
  private int wayBy(int d, int plot, boolean knowing) {
    Shelf told = shelfAt(d);
    if (told == null || !isPlot(plot)) {
      return NO_SUCH_THING;
    }
    int refusal = told.refusalAsRowOf(SHORTS);
    if (refusal != 0) {
      return refusal;
    }
    if (!comesByAll(told, ALL_PLOTS)) {
      return NONE;
    }
    return knowing ? leastWay(told, plot) : wayOfSearch(told, plot);
  }

  /** Whether each NUMBER told is that of a house on one of some PLOTS (bits). */
  private boolean comesByAll(Shelf told, int plots) {
    for (int i = 0; i < told.size; i++) {
      if ((town.plotsWith(told.at(i)) & plots) == 0) {
        return false;
      }
    }
    return true;
  }

  /** The least way from a PLOT: he who sees the PLOTS from low to high goes to the nearer one first. */
  private int leastWay(Shelf told, int plot) {
    int least = 2 * PLOTS;
    for (int low = 0; low <= plot; low++) {
      for (int high = plot; high < PLOTS; high++) {
        int way = high - low + Math.min(plot - low, high - plot);
        if (way < least && comesByAll(told, plotsBetween(low, high))) {
          least = way;
        }
      }
    }
    return least;
  }

  /** The PLOTS from low to high, that one too, as bits. */
  private static int plotsBetween(int low, int high) {
    return ALL_PLOTS >> (PLOTS - 1 - high) & ALL_PLOTS << low;
  }

  private int wayOfSearch(Shelf told, int plot) {
    int step = plot < PLOTS / 2 ? -1 : 1;
    int at = plot;
    int seen = 0;
    for (int way = 0; way < 2 * PLOTS; way++) {
      seen |= 1 << at;
      if (comesByAll(told, seen)) {
        return way;
      }
      if (at == 0) {
        step = 1;
      } else if (at == PLOTS - 1) {
        step = -1;
      }
      at += step;
    }
    return NONE;
  }

  // ---- orders, towns, seeds, failures

  /** In how many orders the houses that a street lacks can be built so that they have their wanted NUMBERS. */
  private static int ordersFrom(Street street, Street wanted, int lacking) {
    if (lacking <= 0) {
      return 1;
    }
    int orders = 0;
    for (int plot = 0; plot < PLOTS; plot++) {
      if (street.canRaiseAs(wanted, plot)) {
        street.raise(plot, wanted.heightAt(plot));
        orders += ordersFrom(street, wanted, lacking - 1);
        street.takeBack(plot);
      }
    }
    return orders;
  }

  /** The PLOT that was built first in the first order; mind is an empty street. */
  private int firstInOrder(int houses) {
    for (int plot = 0; plot < PLOTS; plot++) {
      if (mind.canRaiseAs(town, plot)) {
        mind.raise(plot, town.heightAt(plot));
        int orders = ordersFrom(mind, town, houses - 1);
        mind.takeBack(plot);
        if (orders > 0) {
          return plot;
        }
      }
    }
    return NONE;
  }

  private static boolean isTown(Shelf told) {
    if (told.size < 1 || told.size > MOST_JOINED) {
      return false;
    }
    for (int i = 0; i < told.size; i++) {
      if (told.at(i) < 1) {
        return false;
      }
    }
    return true;
  }

  /** How many of the NUMBERS told, each raised by so much, a house here has. */
  private int sharedIfRaised(Shelf told, int more) {
    int shared = 0;
    for (int i = 0; i < told.size; i++) {
      if (town.plotsWith(told.at(i) + more) != 0) {
        shared++;
      }
    }
    return shared;
  }

  private int leastRaise(Shelf told) {
    int greatest = town.greatest();
    for (int more = 0; more < greatest; more++) {
      if (sharedIfRaised(told, more) == 0) {
        return more;
      }
    }
    // Raised by the greatest NUMBER here, each of them is above it.
    return greatest;
  }

  private static int nextSeed(int seed) {
    return seed * 1103515245 + 12345;
  }

  /** A seed without its sign's bit over 65536, cut. */
  private static int drawnBits(int seed) {
    return (seed & 0x7fffffff) >> 16;
  }

  private static int caughtFailure(Law law) {
    try {
      law.fail();
    } catch (IllegalArgumentException ofSide) {
      return law.figure + 100;
    } catch (UnsupportedOperationException ofLast) {
      return law.levy() + 200;
    } catch (IllegalStateException ofAnyOther) {
      return law.figure;
    }
    return NO_FAILURE;
  }

  /** The houses of a street, all its EVENTS and the LAW in force. */
  private static final class Street {
    private final int[] numbers = new int[PLOTS];
    private final int[] heights = new int[PLOTS];
    private final int[] births = new int[PLOTS];
    private final int[] builtInQuarters = new int[QUARTERS];
    private final int[] plotsOfEvents = new int[MOST_EVENTS];
    // A height of 0 tells that the house burnt down.
    private final int[] heightsOfEvents = new int[MOST_EVENTS];
    private final int[] rises = new int[PLOTS];
    private int events;
    private int built;
    private Law law = new Law(LAW, 0);

    void clear(Law newLaw) {
      Arrays.fill(numbers, 0);
      Arrays.fill(builtInQuarters, 0);
      events = 0;
      built = 0;
      law = newLaw;
    }

    void become(Street other) {
      System.arraycopy(other.numbers, 0, numbers, 0, PLOTS);
      System.arraycopy(other.heights, 0, heights, 0, PLOTS);
      System.arraycopy(other.births, 0, births, 0, PLOTS);
      System.arraycopy(other.builtInQuarters, 0, builtInQuarters, 0, QUARTERS);
      System.arraycopy(other.plotsOfEvents, 0, plotsOfEvents, 0, MOST_EVENTS);
      System.arraycopy(other.heightsOfEvents, 0, heightsOfEvents, 0, MOST_EVENTS);
      events = other.events;
      built = other.built;
      law = other.law;
    }

    /** Becomes what another street would be, if all its EVENTS had gone by one LAW. */
    void goThrough(Street other, Law newLaw) {
      clear(newLaw);
      for (int event = 0; event < MOST_EVENTS && event < other.events; event++) {
        if (other.heightsOfEvents[event] == 0) {
          raze(other.plotsOfEvents[event]);
        } else {
          raise(other.plotsOfEvents[event], other.heightsOfEvents[event]);
        }
      }
    }

    /** Builds a house: its NUMBER, or the refusal. */
    int raise(int plot, int height) {
      if (!isPlot(plot) || !isHeight(height)) {
        return NO_SUCH_THING;
      }
      if (hasHouse(plot)) {
        return CANNOT_BE;
      }
      if (events >= MOST_EVENTS) {
        return NO_ROOM;
      }
      int number = law.numberFor(this, plot, height);
      numbers[plot] = number;
      heights[plot] = height;
      births[plot] = events;
      builtInQuarters[plot / QUARTER_SIZE]++;
      built++;
      addEvent(plot, height);
      return number;
    }

    /** Burns a house down: its NUMBER, or the refusal. */
    int raze(int plot) {
      if (!isPlot(plot)) {
        return NO_SUCH_THING;
      }
      if (!hasHouse(plot)) {
        return CANNOT_BE;
      }
      if (events >= MOST_EVENTS) {
        return NO_ROOM;
      }
      int number = numbers[plot];
      numbers[plot] = 0;
      addEvent(plot, 0);
      return number;
    }

    private void addEvent(int plot, int height) {
      if (events >= 0 && events < MOST_EVENTS) {
        plotsOfEvents[events] = plot;
        heightsOfEvents[events] = height;
        events++;
      }
    }

    /** Makes the last EVENT undone, which built the house of a PLOT. */
    void takeBack(int plot) {
      if (isPlot(plot) && hasHouse(plot)) {
        numbers[plot] = 0;
        builtInQuarters[plot / QUARTER_SIZE]--;
        built--;
        events--;
      }
    }

    boolean hasHouse(int plot) {
      return numberAt(plot) != 0;
    }

    /** The NUMBER of the house of a PLOT; 0: there is none. */
    int numberAt(int plot) {
      return isPlot(plot) ? numbers[plot] : 0;
    }

    int heightAt(int plot) {
      return isPlot(plot) ? heights[plot] : 0;
    }

    int ageAt(int plot) {
      return isPlot(plot) ? events - 1 - births[plot] : 0;
    }

    int builtInQuarterOf(int plot) {
      int quarter = plot / QUARTER_SIZE;
      return quarter >= 0 && quarter < QUARTERS ? builtInQuarters[quarter] : 0;
    }

    /** The PLOTS (bits) whose houses have a NUMBER. */
    int plotsWith(int number) {
      int plots = 0;
      for (int plot = 0; plot < PLOTS; plot++) {
        if (numbers[plot] != 0 && numbers[plot] == number) {
          plots |= 1 << plot;
        }
      }
      return plots;
    }

    int houses() {
      int houses = 0;
      for (int plot = 0; plot < PLOTS; plot++) {
        if (numbers[plot] != 0) {
          houses++;
        }
      }
      return houses;
    }

    /** How many houses that are there now were built earlier than that of a PLOT. */
    int builtAheadOf(int plot) {
      int age = ageAt(plot);
      int ahead = 0;
      for (int other = 0; other < PLOTS; other++) {
        if (hasHouse(other) && ageAt(other) > age) {
          ahead++;
        }
      }
      return ahead;
    }

    /** The greatest NUMBER; 0: there is no house. */
    int greatest() {
      int greatest = 0;
      for (int plot = 0; plot < PLOTS; plot++) {
        greatest = Math.max(greatest, numbers[plot]);
      }
      return greatest;
    }

    /** The least NUMBER from 1 on that no house has. */
    int leastFree() {
      int taken = 0;
      for (int plot = 0; plot < PLOTS; plot++) {
        if (numbers[plot] <= PLOTS) {
          taken |= 1 << numbers[plot];
        }
      }
      for (int number = 1; number <= PLOTS; number++) {
        if ((taken & 1 << number) == 0) {
          return number;
        }
      }
      // All houses that there can be have the NUMBERS up to here.
      return PLOTS + 1;
    }

    /** How many NUMBERS up to the greatest no house has. */
    int freeNumbers() {
      int greatest = greatest();
      int free = 0;
      for (int number = 1; number < greatest; number++) {
        if (plotsWith(number) == 0) {
          free++;
        }
      }
      return free;
    }

    int longestRise() {
      int longest = 0;
      for (int plot = 0; plot < PLOTS; plot++) {
        rises[plot] = 0;
        if (numbers[plot] != 0) {
          rises[plot] = 1 + longestRiseBelow(plot);
        }
        longest = Math.max(longest, rises[plot]);
      }
      return longest;
    }

    /** The longest rise ahead of a PLOT that its house can go on. */
    private int longestRiseBelow(int plot) {
      int longest = 0;
      for (int ahead = 0; ahead < plot && ahead < PLOTS; ahead++) {
        if (numbers[ahead] < numberAt(plot)) {
          longest = Math.max(longest, rises[ahead]);
        }
      }
      return longest;
    }

    int pairsNotRising() {
      int pairs = 0;
      int ahead = 0;
      for (int plot = 0; plot < PLOTS; plot++) {
        if (numbers[plot] != 0) {
          if (numbers[plot] <= ahead) {
            pairs++;
          }
          ahead = numbers[plot];
        }
      }
      return pairs;
    }

    boolean hasNumbersOf(Street other) {
      for (int plot = 0; plot < PLOTS; plot++) {
        if (numbers[plot] != other.numbers[plot]) {
          return false;
        }
      }
      return true;
    }

    /** Whether a house that is wanted on a PLOT, but not here yet, would get the wanted NUMBER now. */
    boolean canRaiseAs(Street wanted, int plot) {
      return wanted.hasHouse(plot)
          && !hasHouse(plot)
          && law.numberFor(this, plot, wanted.heightAt(plot)) == wanted.numberAt(plot);
    }
  }

  /** Holds nothing, a LAW (law is not null) or a ROW (sort is not NO_ROW). */
  private static final class Shelf {
    private static final int NO_ROW = -1;

    private Law law;
    private int sort = NO_ROW;
    private int size;
    private final int[] elements = new int[MOST_ELEMENTS];

    void hold(Law newLaw) {
      law = newLaw;
      sort = NO_ROW;
      size = 0;
    }

    void holdRow(int newSort, int newSize) {
      law = null;
      sort = newSort;
      size = newSize;
      Arrays.fill(elements, 0);
    }

    boolean holdsNothing() {
      return law == null && sort == NO_ROW;
    }

    boolean holdsRow() {
      return sort != NO_ROW;
    }

    /** Why it can't be read as a LAW, when it holds none. */
    int refusalAsLaw() {
      return holdsNothing() ? NOTHING_HELD : OTHER_KIND;
    }

    /** Why it can't be read as a ROW; 0: it can. */
    int refusalAsRow() {
      if (holdsNothing()) {
        return NOTHING_HELD;
      }
      return holdsRow() ? 0 : OTHER_KIND;
    }

    /** Why it can't be read as a ROW of a SORT; 0: it can. */
    int refusalAsRowOf(int wantedSort) {
      if (holdsNothing()) {
        return NOTHING_HELD;
      }
      return sort == wantedSort ? 0 : OTHER_KIND;
    }

    boolean hasPlace(int i) {
      return i >= 0 && i < size;
    }

    /** Whether there are n places from i on; written so that no sum can run over. */
    boolean hasPlaces(int i, int n) {
      return n >= 0 && n <= size && i >= 0 && i <= size - n;
    }

    /** The element i; 0: there is no such place. */
    int at(int i) {
      return hasPlace(i) && i < MOST_ELEMENTS ? elements[i] : 0;
    }

    void set(int i, int value) {
      if (hasPlace(i) && i < MOST_ELEMENTS) {
        elements[i] = kept(value);
      }
    }

    /** The lowest bits of a value that an element of the SORT keeps. */
    private int kept(int value) {
      switch (sort) {
        case BYTES:
          return (byte) value;
        case SHORTS:
          return (short) value;
        default:
          return value;
      }
    }

    int leastOfSort() {
      switch (sort) {
        case BYTES:
          return -1 << 7;
        case SHORTS:
          return -1 << 15;
        default:
          return -1 << 31;
      }
    }
  }

  /** KIND 0, and what the other KINDS have from it. */
  private static class Law {
    final int kind;
    final int figure;

    Law(int kind, int figure) {
      this.kind = kind;
      this.figure = figure;
    }

    /** The NUMBER that a house of a HEIGHT gets when it is built on a PLOT of a street as it stands. */
    int numberFor(Street street, int plot, int height) {
      return street.built + 1;
    }

    /** Its TAX. */
    int levy() {
      return 3;
    }

    /** Throws its FAILURE; which exception it is tells whose FAILURE it is. */
    void fail() {
      if (figure != 0) {
        throw new IllegalStateException("a LAW failed");
      }
    }
  }

  private static class Gap extends Law {
    Gap(int kind, int figure) {
      super(kind, figure);
    }

    int numberFor(Street street, int plot, int height) {
      return street.leastFree();
    }

    int levy() {
      return super.levy() + figure;
    }
  }

  private static class Quarter extends Law {
    Quarter(int kind, int figure) {
      super(kind, figure);
    }

    int numberFor(Street street, int plot, int height) {
      return street.builtInQuarterOf(plot) + 1;
    }

    int levy() {
      return super.levy() - 1;
    }
  }

  private static final class High extends Law {
    High(int kind, int figure) {
      super(kind, figure);
    }

    int numberFor(Street street, int plot, int height) {
      return super.numberFor(street, plot, height) + figure * height;
    }

    int levy() {
      return 2 * super.levy();
    }
  }

  private static final class Twice extends Law {
    Twice(int kind, int figure) {
      super(kind, figure);
    }

    int numberFor(Street street, int plot, int height) {
      return 2 * super.numberFor(street, plot, height);
    }

    void fail() {
      // Of this KIND there is no FAILURE, whatever its FIGURE.
    }
  }

  private static final class Skip extends Law {
    Skip(int kind, int figure) {
      super(kind, figure);
    }

    int numberFor(Street street, int plot, int height) {
      int place = super.numberFor(street, plot, height);
      // Of each FIGURE numbers one is skipped, the last one.
      return figure < 2 ? place : place + (place - 1) / (figure - 1);
    }

    int levy() {
      return super.levy() + 4;
    }
  }

  private static final class Last extends Gap {
    Last(int kind, int figure) {
      super(kind, figure);
    }

    int numberFor(Street street, int plot, int height) {
      int gap = super.numberFor(street, plot, height);
      return gap < figure ? gap : street.greatest() + 1;
    }

    int levy() {
      return 2 * super.levy();
    }

    void fail() {
      if (figure != 0) {
        throw new UnsupportedOperationException("a LAST one failed");
      }
    }
  }

  private static final class Side extends Quarter {
    Side(int kind, int figure) {
      super(kind, figure);
    }

    int numberFor(Street street, int plot, int height) {
      int twice = 2 * super.numberFor(street, plot, height);
      return plot % 2 == 0 ? twice - 1 : twice;
    }

    int levy() {
      return super.levy() - figure;
    }

    void fail() {
      if (figure != 0) {
        throw new IllegalArgumentException("a SIDE one failed");
      }
    }
  }
}
