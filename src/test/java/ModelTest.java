import java.util.ArrayDeque;
import java.util.ArrayList;
import java.util.Arrays;
import java.util.Deque;
import java.util.HashMap;
import java.util.HashSet;
import java.util.List;
import java.util.Map;
import java.util.Set;
import java.util.TreeMap;
import java.util.TreeSet;
import java.util.regex.Pattern;

/** Long runs of calls from fixed seeds against a model that finds each answer in a slow way of its own. */
public final class ModelTest {
  private static final int OBJECTS = 1500;
  private static final int CALLS = 300;
  private static int wrong = 0;

  public static void main(String[] args) {
    for (int object = 0; object < OBJECTS && wrong < 20; object++) {
      new Run(object).go();
    }
    System.out.println(wrong == 0 ? "all answers are as the model's" : wrong + " answers are not as the model's");
    if (wrong != 0) {
      System.exit(1);
    }
  }

  // ---- the model

  private record Law(int kind, int figure) {}

  private record House(int plot, int height, int number, int birth) {}

  /** plot; height 0: it burnt down. */
  private record Event(int plot, int height) {}

  /** A street that is never changed: each event makes another one. */
  private record Model(Map<Integer, House> houses, List<Event> events, Law law) {
    static Model empty(Law law) {
      return new Model(Map.of(), List.of(), law);
    }

    Model with(Event event) {
      Map<Integer, House> now = new TreeMap<>(houses);
      if (event.height == 0) {
        now.remove(event.plot);
      } else {
        now.put(event.plot, new House(event.plot, event.height, number(event.plot, event.height), events.size()));
      }
      List<Event> more = new ArrayList<>(events);
      more.add(event);
      return new Model(now, more, law);
    }

    Model with(Law newLaw) {
      return new Model(houses, events, newLaw);
    }

    Model replayed(Law newLaw) {
      Model street = empty(newLaw);
      for (Event event : events) {
        street = street.with(event);
      }
      return street;
    }

    Set<Integer> numbers() {
      Set<Integer> numbers = new TreeSet<>();
      houses.values().forEach(house -> numbers.add(house.number));
      return numbers;
    }

    List<Integer> inRow() {
      List<Integer> row = new ArrayList<>();
      new TreeMap<>(houses).values().forEach(house -> row.add(house.number));
      return row;
    }

    int greatest() {
      return numbers().stream().mapToInt(n -> n).max().orElse(0);
    }

    int builds() {
      return (int) events.stream().filter(event -> event.height > 0).count();
    }

    int gap() {
      int n = 1;
      while (numbers().contains(n)) {
        n++;
      }
      return n;
    }

    int number(int plot, int height) {
      int next = builds() + 1;
      int inQuarter = 1 + (int) events.stream().filter(e -> e.height > 0 && e.plot / 4 == plot / 4).count();
      switch (law.kind) {
        case 0: return next;
        case 1: return gap();
        case 2: return inQuarter;
        case 3: return next + law.figure * height;
        case 4: return next + next;
        case 5: {
          int n = 0;
          for (int left = next; left > 0; ) {
            n++;
            if (law.figure < 2 || n % law.figure != 0) {
              left--;
            }
          }
          return n;
        }
        case 6: return gap() < law.figure ? gap() : greatest() + 1;
        default: return inQuarter * 2 - (plot % 2 == 0 ? 1 : 0);
      }
    }

    int gaps() {
      return greatest() - numbers().size();
    }

    int rise() {
      List<Integer> row = inRow();
      int most = 0;
      for (int chosen = 0; chosen < 1 << row.size(); chosen++) {
        int last = 0;
        int length = 0;
        for (int i = 0; i < row.size() && length >= 0; i++) {
          if ((chosen >> i & 1) == 1) {
            length = row.get(i) > last ? length + 1 : -1;
            last = row.get(i);
          }
        }
        most = Math.max(most, length);
      }
      return most;
    }

    int falls() {
      List<Integer> row = inRow();
      int falls = 0;
      for (int i = 1; i < row.size(); i++) {
        falls += row.get(i) > row.get(i - 1) ? 0 : 1;
      }
      return falls;
    }

    /** All orders that make the houses as they are, in their order by numbers of PLOTS. */
    List<List<Integer>> orders() {
      List<List<Integer>> found = new ArrayList<>();
      permute(new ArrayList<>(), found);
      return found;
    }

    private void permute(List<Integer> begun, List<List<Integer>> found) {
      if (begun.size() == houses.size()) {
        Model street = empty(law);
        for (int plot : begun) {
          street = street.with(new Event(plot, houses.get(plot).height));
        }
        if (street.sameNumbers(this)) {
          found.add(new ArrayList<>(begun));
        }
        return;
      }
      for (int plot = 0; plot < 12; plot++) {
        if (houses.containsKey(plot) && !begun.contains(plot)) {
          begun.add(plot);
          permute(begun, found);
          begun.remove(begun.size() - 1);
        }
      }
    }

    boolean sameNumbers(Model other) {
      return houses.keySet().equals(other.houses.keySet())
          && houses.keySet().stream().allMatch(p -> houses.get(p).number == other.houses.get(p).number);
    }

    boolean met(Set<Integer> seen, List<Integer> told) {
      return told.stream().allMatch(
          n -> seen.stream().anyMatch(p -> houses.containsKey(p) && houses.get(p).number == n));
    }

    int walk(List<Integer> told, int plot) {
      Deque<List<Integer>> paths = new ArrayDeque<>();
      Set<String> known = new HashSet<>();
      paths.add(List.of(plot));
      while (!paths.isEmpty()) {
        List<Integer> path = paths.remove();
        Set<Integer> seen = new TreeSet<>(path);
        if (met(seen, told)) {
          return path.size() - 1;
        }
        for (int step = -1; step <= 1; step += 2) {
          int next = path.get(path.size() - 1) + step;
          List<Integer> longer = new ArrayList<>(path);
          longer.add(next);
          if (next >= 0 && next < 12 && known.add(next + " " + new TreeSet<>(longer))) {
            paths.add(longer);
          }
        }
      }
      return -4;
    }

    int search(List<Integer> told, int plot) {
      List<Integer> path = new ArrayList<>();
      boolean down = plot - 0 < 11 - plot;
      for (int p = plot; down ? p >= 0 : p <= 11; p += down ? -1 : 1) {
        path.add(p);
      }
      for (int p = down ? 1 : 10; down ? p <= 11 : p >= 0; p += down ? 1 : -1) {
        path.add(p);
      }
      for (int way = 0; way < path.size(); way++) {
        if (met(new TreeSet<>(path.subList(0, way + 1)), told)) {
          return way;
        }
      }
      return -4;
    }
  }

  // ---- one object and its model

  private static final class Run {
    private static final Pattern WHOLE = Pattern.compile("(b\\d\\d\\d;|f\\d\\d;|l\\d\\d;)+");
    private static final Pattern BEGUN =
        Pattern.compile("(b\\d\\d\\d;|f\\d\\d;|l\\d\\d;)*(b\\d{0,3}|f\\d{0,2}|l\\d{0,2})?");

    private final NumberedByAge x = new NumberedByAge();
    private final int object;
    private Model model = Model.empty(new Law(0, 0));
    private Model image = null;
    private final Map<Integer, Object> shelves = new HashMap<>();
    private long z;
    private int call = 0;

    Run(int object) {
      this.object = object;
      z = object * 7919L + 1;
    }

    private int below(int n) {
      z = z * 6364136223846793005L + 1442695040888963407L;
      return (int) ((z >>> 33) % n);
    }

    /** Mostly from low to high, now and then out of it. */
    private int around(int low, int high) {
      switch (below(40)) {
        case 0: return low - 1;
        case 1: return high + 1;
        case 2: return below(2) == 0 ? Integer.MIN_VALUE : Integer.MAX_VALUE;
        default: return low + below(high - low + 1);
      }
    }

    private void due(String what, long want, long got) {
      call++;
      if (want != got) {
        wrong++;
        System.out.println("object " + object + ", call " + call + ": " + what + " answered " + got
            + ", the model " + want + " " + model);
      }
    }

    void go() {
      while (call < CALLS && wrong < 20) {
        switch (below(10)) {
          case 0: case 1: case 2: change(); break;
          case 3: shelve(); break;
          case 4: ask(); break;
          case 5: askByRow(); break;
          case 6: askByLaw(); break;
          case 7: text(); break;
          case 8: bareShelf(); break;
          default: picture();
        }
      }
      look();
    }

    private static boolean in(int n, int low, int high) {
      return n >= low && n <= high;
    }

    private int held(int d, int sort) {
      Object held = in(d, 0, 7) ? shelves.get(d) : null;
      if (!in(d, 0, 7)) {
        return -1;
      }
      if (held == null) {
        return -11;
      }
      if (sort == 3) {
        return held instanceof Law ? 0 : -12;
      }
      return held instanceof Row row && (sort == 4 || row.sort == sort) ? 0 : -12;
    }

    private record Row(int sort, int[] elements) {
      static int kept(int sort, int v) {
        return sort == 0 ? (byte) v : sort == 1 ? (short) v : v;
      }

      List<Integer> list() {
        return Arrays.stream(elements).boxed().toList();
      }
    }

    private void change() {
      int plot = around(0, 11);
      int height = around(1, 9);
      boolean taken = model.houses.containsKey(plot);
      boolean full = model.events.size() >= 30;
      if (below(3) > 0) {
        int want = !in(plot, 0, 11) || !in(height, 1, 9) ? -1 : taken ? -3 : full ? -2 : model.number(plot, height);
        due("build(" + plot + ", " + height + ")", want, x.build(plot, height));
        model = want > 0 ? model.with(new Event(plot, height)) : model;
      } else {
        int want = !in(plot, 0, 11) ? -1 : !taken ? -3 : full ? -2 : model.houses.get(plot).number;
        due("burn(" + plot + ")", want, x.burn(plot));
        model = want > 0 ? model.with(new Event(plot, 0)) : model;
      }
    }

    private void shelve() {
      int d = around(0, 7);
      int what = around(0, 1);
      int kind = around(0, 7);
      int figure = around(0, 9);
      boolean refused = !in(d, 0, 7) || !in(what, 0, 1) || what == 1 && (!in(kind, 0, 7) || !in(figure, 0, 9));
      due("keep(" + d + ", " + what + ", " + kind + ", " + figure + ")", refused ? -1 : 0,
          x.keep(d, what, kind, figure));
      if (!refused) {
        shelves.put(d, what == 0 ? null : new Law(kind, figure));
      }
      int e = below(3) == 0 ? around(0, 7) : d;
      int held = held(e, 3);
      due("tax", held != 0 ? held : tax((Law) shelves.get(e)), x.tax(e));
      due("toss", held != 0 ? held : toss((Law) shelves.get(e)), x.toss(e));
      if (below(2) == 0) {
        due("enact(" + e + ")", held != 0 ? held : model.law.kind, x.enact(e));
        model = held == 0 ? model.with((Law) shelves.get(e)) : model;
      }
    }

    private static int tax(Law law) {
      int[] withoutFigure = {3, 3, 2, 6, 3, 7, 6, 2};
      int[] ofFigure = {0, 1, 0, 0, 0, 0, 2, -1};
      return withoutFigure[law.kind] + ofFigure[law.kind] * law.figure;
    }

    private static int toss(Law law) {
      if (law.kind == 4 || law.figure == 0) {
        return -15;
      }
      return law.kind == 6 ? 200 + tax(law) : law.kind == 7 ? 100 + law.figure : law.figure;
    }

    private int bits(java.util.function.IntPredicate is) {
      int bits = 0;
      for (int plot = 0; plot < 12; plot++) {
        bits |= is.test(plot) ? 1 << plot : 0;
      }
      return bits;
    }

    private int numberOf(int plot) {
      return model.houses.containsKey(plot) ? model.houses.get(plot).number : 0;
    }

    private void ask() {
      int number = around(1, 20);
      int height = around(1, 9);
      int plot = around(0, 11);
      int n = around(1, 12);
      due("have(" + number + ")", number < 1 ? -1 : bits(p -> numberOf(p) == number), x.have(number));
      due("would(" + plot + ", " + height + ")",
          in(plot, 0, 11) && in(height, 1, 9) ? model.number(plot, height) : -1, x.would(plot, height));
      due("where(" + number + ", " + height + ")", number < 1 || !in(height, 1, 9) ? -1
          : bits(p -> numberOf(p) == 0 && model.number(p, height) == number), x.where(number, height));
      List<House> oldest = new ArrayList<>(model.houses.values());
      oldest.sort((a, b) -> a.birth - b.birth);
      due("letter(" + n + ")", !in(n, 1, 12) ? -1 : n > oldest.size() ? -4 : oldest.get(n - 1).plot, x.letter(n));
      due("gaps()", model.gaps(), x.gaps());
      due("rise()", model.rise(), x.rise());
      due("falls()", model.falls(), x.falls());
      look();
    }

    /** All that count and house tell. */
    private void look() {
      int[] wants = {model.houses.size(), model.events.size(), model.builds(), model.greatest(),
          model.law.kind, model.law.figure, -1};
      for (int what = 0; what < wants.length; what++) {
        due("count(" + what + ")", wants[what], x.count(what));
      }
      int plot = around(0, 11);
      House house = model.houses.get(plot);
      for (int what = -1; what <= 3; what++) {
        int want = !in(plot, 0, 11) || !in(what, 0, 2) ? -1 : house == null ? -4
            : what == 0 ? house.number : what == 1 ? house.height : model.events.size() - 1 - house.birth;
        due("house(" + plot + ", " + what + ")", want, x.house(plot, what));
      }
    }

    /** A ROW whose elements are told by the model now and then, so that it is worth to read. */
    private int makeRow(int sort, int size, int odds) {
      int d = below(8);
      due("row", 0, x.row(d, sort, size));
      int[] elements = new int[size];
      for (int i = 0; i < size; i++) {
        List<Integer> row = model.inRow();
        int v = below(odds) == 0 || row.isEmpty() ? below(30) - 1 : row.get(below(row.size()));
        due("put", 0, x.put(d, i, v));
        elements[i] = Row.kept(sort, v);
      }
      shelves.put(d, new Row(sort, elements));
      return d;
    }

    private void askByRow() {
      int made = makeRow(below(8) == 0 ? below(3) : 1, below(6) == 0 ? below(24) : below(5), 6);
      int d = below(4) == 0 ? around(0, 7) : made;
      int plot = around(0, 11);
      int held = held(d, 1);
      int refused = !in(plot, 0, 11) ? -1 : held;
      List<Integer> told = held == 0 ? ((Row) shelves.get(d)).list() : List.of();
      due("walk(" + told + ", " + plot + ")", refused != 0 ? refused : model.walk(told, plot), x.walk(d, plot));
      due("search(" + told + ", " + plot + ")", refused != 0 ? refused : model.search(told, plot),
          x.search(d, plot));
      int what = around(0, 1);
      int wanted = !in(what, 0, 1) ? -1 : held != 0 ? held
          : !in(told.size(), 1, 20) || told.stream().anyMatch(n -> n < 1) ? -13 : joined(told, what);
      due("joined(" + told + ", " + what + ")", wanted, x.joined(d, what));
      judge(d);
      judge(makeJudged());
    }

    private int joined(List<Integer> told, int what) {
      if (what == 0) {
        return (int) told.stream().filter(n -> model.numbers().contains(n)).count();
      }
      int more = 0;
      while (true) {
        int raise = more;
        if (told.stream().noneMatch(n -> model.numbers().contains(n + raise))) {
          return more;
        }
        more++;
      }
    }

    private void judge(int d) {
      int want = held(d, 4);
      if (want == 0) {
        Row row = (Row) shelves.get(d);
        int least = row.sort == 0 ? -128 : row.sort == 1 ? -32768 : Integer.MIN_VALUE;
        want = row.elements.length < 12 ? row.elements.length : row.elements.length > 12 ? 12 : -4;
        for (int i = Math.min(12, row.elements.length) - 1; i >= 0; i--) {
          if (row.elements[i] != least && row.elements[i] != numberOf(i)) {
            want = i;
          }
        }
      }
      due("judge(" + d + ")", want, x.judge(d));
    }

    private int makeJudged() {
      int d = below(8);
      int sort = below(3);
      int size = below(3) == 0 ? below(15) : 12;
      int[] elements = new int[size];
      due("row", 0, x.row(d, sort, size));
      for (int i = 0; i < size; i++) {
        int chance = below(25);
        int v = chance == 0 ? -128 : chance == 1 ? -32768 : chance == 2 ? Integer.MIN_VALUE
            : chance == 3 && below(4) == 0 ? 1 : numberOf(i);
        due("put", 0, x.put(d, i, v));
        elements[i] = Row.kept(sort, v);
      }
      shelves.put(d, new Row(sort, elements));
      return d;
    }

    private void askByLaw() {
      int plot = around(0, 11);
      int kind = around(0, 7);
      int figure = around(0, 9);
      boolean refused = !in(plot, 0, 11) || !in(kind, 0, 7) || !in(figure, 0, 9);
      due("byLaw(" + plot + ", " + kind + ", " + figure + ")", refused ? -1 : numberOf(plot) == 0 ? -4
          : model.replayed(new Law(kind, figure)).houses.get(plot).number, x.byLaw(plot, kind, figure));
      int kinds = in(figure, 0, 9) ? 0 : -1;
      for (int k = 0; k < 8 && kinds >= 0; k++) {
        kinds |= model.replayed(new Law(k, figure)).sameNumbers(model) ? 1 << k : 0;
      }
      due("laws(" + figure + ")", kinds, x.laws(figure));
      // Permutations of more than 5 houses take long, so these are asked for seldom.
      if (model.houses.size() < 6 || model.houses.size() > 7 || below(20) == 0) {
        boolean many = model.houses.size() > 7;
        List<List<Integer>> orders = many ? List.of() : model.orders();
        due("orders(0)", many ? -2 : orders.size(), x.orders(0));
        due("orders(1)", many ? -2 : orders.isEmpty() || orders.get(0).isEmpty() ? -4 : orders.get(0).get(0),
            x.orders(1));
        int what = around(0, 1);
        due("orders", in(what, 0, 1) ? x.orders(what) : -1, x.orders(what));
      }
      int n = around(1, 30);
      int seed = below(2) == 0 ? around(-5, 5) : below(Integer.MAX_VALUE) * 2 + below(2);
      int what = around(0, 1);
      due("seeded(" + n + ", " + seed + ", " + what + ")",
          in(n, 1, 30) && in(what, 0, 1) ? seeded(n, seed, what) : -1, x.seeded(n, seed, what));
    }

    private int seeded(int n, int seed, int what) {
      long s = seed;
      Model street = Model.empty(model.law);
      for (int i = 0; i < n; i++) {
        s = (int) (s * 1103515245L + 12345L);
        int plot = (int) ((s & 0x7FFFFFFFL) / 65536 % 12);
        s = (int) (s * 1103515245L + 12345L);
        int height = (int) ((s & 0x7FFFFFFFL) / 65536 % 9) + 1;
        street = street.with(new Event(plot, street.houses.containsKey(plot) ? 0 : height));
      }
      return what == 0 ? street.gaps() : street.rise();
    }

    private void text() {
      StringBuilder text = new StringBuilder();
      Set<Integer> there = new TreeSet<>(model.houses.keySet());
      int statements = below(6);
      for (int i = 0; i < statements; i++) {
        int plot = below(20) == 0 ? below(100) : below(12);
        boolean fits = below(12) > 0;
        switch (below(4)) {
          case 0:
            text.append("l").append(below(9)).append(below(10)).append(";");
            break;
          default:
            boolean burns = there.contains(plot) == fits;
            text.append(burns ? "f" : "b").append(plot / 10).append(plot % 10);
            text.append(burns ? "" : "" + (below(20) == 0 ? 0 : 1 + below(9))).append(";");
            if (burns) {
              there.remove(plot);
            } else {
              there.add(plot);
            }
        }
      }
      if (below(3) == 0 && text.length() > 0) {
        switch (below(3)) {
          case 0: text.setCharAt(below(text.length()), "bfl;09/:x\u00e9 ".charAt(below(11))); break;
          case 1: text.setLength(below(text.length())); break;
          default: text.insert(below(text.length() + 1), "bfl;0".charAt(below(5)));
        }
      }
      int d = below(8);
      due("row", 0, x.row(d, 0, text.length()));
      int[] elements = new int[text.length()];
      for (int i = 0; i < elements.length; i++) {
        due("put", 0, x.put(d, i, text.charAt(i)));
        elements[i] = (byte) text.charAt(i);
      }
      shelves.put(d, new Row(0, elements));
      int e = below(6) == 0 ? around(0, 7) : d;
      int want = held(e, 0);
      due("street", want != 0 ? want : read(((Row) shelves.get(e)).elements), x.street(e));
    }

    /** What a text answers; the model goes on by it. */
    private int read(int[] bytes) {
      StringBuilder signs = new StringBuilder();
      for (int b : bytes) {
        signs.append(b < 0 ? 'x' : (char) b);
      }
      String text = signs.toString();
      if (!WHOLE.matcher(text).matches()) {
        int place = 0;
        while (place < text.length() && BEGUN.matcher(text.substring(0, place + 1)).matches()) {
          place++;
        }
        return -1000 - place;
      }
      Model tried = model;
      int at = 0;
      String[] statements = text.split(";");
      for (String statement : statements) {
        int first = Integer.parseInt(statement.substring(1, 3));
        boolean there = tried.houses.containsKey(first);
        boolean full = tried.events.size() == 30;
        if (statement.charAt(0) == 'l') {
          if (first / 10 > 7) {
            return -2000 - at;
          }
          tried = tried.with(new Law(first / 10, first % 10));
        } else {
          int height = statement.charAt(0) == 'b' ? statement.charAt(3) - '0' : 0;
          boolean burns = statement.charAt(0) == 'f';
          if (first > 11 || full || there != burns || !burns && height == 0) {
            return -2000 - at;
          }
          tried = tried.with(new Event(first, height));
        }
        at += statement.length() + 1;
      }
      model = tried;
      return statements.length;
    }

    private void bareShelf() {
      int d = around(0, 7);
      int sort = around(0, 2);
      int n = below(6) == 0 ? around(0, 100) : around(0, 6);
      int want = !in(d, 0, 7) || !in(sort, 0, 2) || n > 100 ? -1 : n < 0 ? -14 : 0;
      due("row(" + d + ", " + sort + ", " + n + ")", want, x.row(d, sort, n));
      if (want == 0) {
        shelves.put(d, new Row(sort, new int[n]));
      }
      for (int k = 0; k < 3; k++) {
        int e = below(2) == 0 ? d : around(0, 7);
        Row row = in(e, 0, 7) && shelves.get(e) instanceof Row held ? held : null;
        int i = around(0, row == null ? 3 : row.elements.length);
        int v = below(2) == 0 ? around(-300, 300) : below(Integer.MAX_VALUE) * 2;
        int refused = held(e, 4);
        refused = refused != 0 ? refused : in(i, 0, row.elements.length - 1) ? 0 : -13;
        due("put(" + e + ", " + i + ", " + v + ")", refused, x.put(e, i, v));
        if (refused == 0) {
          row.elements[i] = Row.kept(row.sort, v);
        }
        element(e, i, refused);
      }
      copy(d);
    }

    private void element(int e, int i, int refused) {
      long want = refused == 0 ? ((Row) shelves.get(e)).elements[i] : refused == -1 ? Long.MAX_VALUE : Long.MIN_VALUE;
      long got;
      try {
        got = x.element(e, i);
      } catch (IllegalArgumentException thrown) {
        got = Long.MAX_VALUE;
      } catch (IllegalStateException thrown) {
        got = Long.MIN_VALUE;
      }
      due("element(" + e + ", " + i + ")", want, got);
    }

    private void copy(int d) {
      int e = below(3) == 0 ? d : around(0, 7);
      int i = around(0, 4);
      int j = around(0, 4);
      int n = around(0, 4);
      Object from = in(d, 0, 7) ? shelves.get(d) : null;
      Object to = in(e, 0, 7) ? shelves.get(e) : null;
      int want;
      if (!in(d, 0, 7) || !in(e, 0, 7)) {
        want = -1;
      } else if (from == null || to == null) {
        want = -11;
      } else if (!(from instanceof Row a) || !(to instanceof Row b) || a.sort != b.sort) {
        want = -12;
      } else {
        want = n;
        if (i < 0 || j < 0 || n < 0 || (long) i + n > a.elements.length || (long) j + n > b.elements.length) {
          want = -13;
        }
        int[] taken = a.elements.clone();
        for (int k = 0; k < want; k++) {
          b.elements[j + k] = taken[i + k];
        }
      }
      due("copy(" + d + ", " + i + ", " + e + ", " + j + ", " + n + ")", want, x.copy(d, i, e, j, n));
      if (to instanceof Row b) {
        for (int k = 0; k < b.elements.length; k++) {
          element(e, k, 0);
        }
      }
    }

    private void picture() {
      if (below(2) == 0) {
        image = model;
        due("image()", model.events.size(), x.image());
      } else {
        model = image == null ? model : image;
        due("restore()", image == null ? -3 : model.events.size(), x.restore());
        look();
      }
    }
  }
}
