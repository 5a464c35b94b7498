import java.util.function.ToLongFunction;

/**
 * Each boundary that a promise of ../shared/DOC.md tells at its call: what is refused, in which order, and that a
 * refused call changes nothing.
 */
public final class CallsEdgesTest {
  private static final int LEAST = Integer.MIN_VALUE;
  private static final int MOST = Integer.MAX_VALUE;
  private static final int[] EXTREMES = {LEAST, LEAST + 1, -1, 0, 1, 7, 8, 11, 12, 99, 100, MOST - 1, MOST};
  private static int wrong = 0;
  private static String test = "";

  public static void main(String[] args) {
    newObjects();
    streets();
    numbers();
    walks();
    lawsOrdersTowns();
    imageAndCounts();
    shelves();
    refusedCallsChangeNothing();
    askingChangesNothing();
    extremesNeverThrow();
    callsToTheLast();
    System.out.println(wrong == 0 ? "all answers are as due" : wrong + " answers are not as due");
    if (wrong != 0) {
      System.exit(1);
    }
  }

  // ---- what the tests are written with

  private static void due(String call, long want, long got) {
    if (got != want) {
      wrong++;
      System.out.println(test + ": " + call + " answered " + got + ", due is " + want);
    }
  }

  private static void fill(NumberedByAge x, int d, int sort, int... values) {
    due("row", 0, x.row(d, sort, values.length));
    for (int i = 0; i < values.length; i++) {
      due("put", 0, x.put(d, i, values[i]));
    }
  }

  private static void fillText(NumberedByAge x, int d, String text) {
    int[] bytes = new int[text.length()];
    for (int i = 0; i < bytes.length; i++) {
      bytes[i] = text.charAt(i);
    }
    fill(x, d, 0, bytes);
  }

  /**
   * SHELVES 0 SIDE 4; 1 a text that burns PLOT 5; 2 shorts 0, 1; 3 an int 5; 4 QUARTER 3; 5 nothing; 6 TWICE 4;
   * 7 a text of a LAW that ends too early. By QUARTER 3: a house of HEIGHT 3 on PLOT 0, one of HEIGHT 9 on PLOT 11,
   * one on PLOT 5 that burnt down. THE IMAGE is taken ahead of the fire.
   */
  private static NumberedByAge furnished(String ofTest) {
    test = ofTest;
    NumberedByAge x = new NumberedByAge();
    x.keep(0, 1, 7, 4);
    fillText(x, 1, "f05;");
    fill(x, 2, 1, 0, 1);
    fill(x, 3, 2, 5);
    x.keep(4, 1, 2, 3);
    x.keep(6, 1, 4, 4);
    fillText(x, 7, "l1");
    due("enact", 0, x.enact(4));
    due("build", 1, x.build(0, 3));
    due("build", 1, x.build(11, 9));
    due("build", 1, x.build(5, 1));
    due("image", 3, x.image());
    due("burn", 1, x.burn(5));
    return x;
  }

  /** As furnished, with 30 EVENTS: houses on PLOTS 0 and 11, none on 5. */
  private static NumberedByAge full(String ofTest) {
    NumberedByAge x = furnished(ofTest);
    for (int i = 0; i < 13; i++) {
      x.build(5, 1);
      x.burn(5);
    }
    due("EVENTS", 30, x.count(1));
    return x;
  }

  /** 0: there is an element; 1: IllegalArgumentException; 2: IllegalStateException. */
  private static int thrown(NumberedByAge x, int d, int i) {
    try {
      x.element(d, i);
      return 0;
    } catch (IllegalArgumentException e) {
      return 1;
    } catch (IllegalStateException e) {
      return 2;
    }
  }

  /** All that can be seen of an object without changing it. */
  private static String seen(NumberedByAge x) {
    StringBuilder seen = new StringBuilder();
    for (int what = 0; what < 6; what++) {
      seen.append(x.count(what)).append(' ');
    }
    for (int plot = 0; plot < 12; plot++) {
      seen.append("\nPLOT ").append(plot).append(": ").append(x.would(plot, 9));
      for (int what = 0; what < 3 && x.house(plot, 0) > 0; what++) {
        seen.append(' ').append(x.house(plot, what));
      }
      seen.append(' ').append(x.byLaw(plot, 7, 0));
    }
    for (int d = 0; d < 8; d++) {
      seen.append("\nSHELF ").append(d).append(": ").append(x.tax(d)).append(' ').append(x.toss(d));
      seen.append(' ').append(x.walk(d, 0)).append(' ').append(x.copy(d, 0, 1, 0, 0));
      for (int i = 0; thrown(x, d, i) == 0; i++) {
        seen.append(' ').append(x.element(d, i));
      }
    }
    return seen.toString();
  }

  // ---- a new object

  private static void newObjects() {
    test = "Promise 1";
    NumberedByAge first = new NumberedByAge();
    first.build(0, 1);
    first.image();
    fill(first, 0, 2, 5);
    first.keep(1, 1, 4, 4);
    first.enact(1);
    NumberedByAge second = new NumberedByAge();
    for (int what = 0; what < 6; what++) {
      due("count(" + what + ")", 0, second.count(what));
    }
    for (int plot = 0; plot < 12; plot++) {
      due("house", -4, second.house(plot, 0));
    }
    due("restore", -3, second.restore());
    due("judge", -11, second.judge(0));
    due("enact", -11, second.enact(1));
    due("build", 1, second.build(11, 1));
    due("the first is as it was", 1, first.house(0, 0));
    due("the first is as it was", -4, first.house(11, 0));
    due("the first is as it was", 4, first.would(1, 1));
    due("the first is as it was", 5, first.element(0, 0));
    due("the first is as it was", 1, first.restore());
  }

  // ---- streets

  private static void streets() {
    refusalsOfStreet();
    refusalsOfBuild();
    refusalsOfBurn();
    refusalsOfEnact();
    refusalsOfHouse();
  }

  private static void refusalsOfStreet() {
    NumberedByAge x = furnished("Promise 2");
    due("no such SHELF", -1, x.street(8));
    due("no such SHELF", -1, x.street(-1));
    due("nothing held", -11, x.street(5));
    due("a LAW", -12, x.street(0));
    due("shorts", -12, x.street(2));
    due("ints", -12, x.street(3));
    due("FAULT", -1002, x.street(7));
    due("FAULT", -2000, x.street(1));
    fillText(x, 7, "l12;f11;");
    due("how many STATEMENTS", 2, x.street(7));
    due("how many STATEMENTS, the second time", -2004, x.street(7));
  }

  private static void refusalsOfBuild() {
    NumberedByAge x = furnished("Promise 3");
    due("a house there", -3, x.build(0, 1));
    due("no such PLOT", -1, x.build(12, 1));
    due("no such HEIGHT", -1, x.build(5, 0));
    due("-1 goes ahead of -3", -1, x.build(0, 10));
    due("built: its NUMBER", 2, x.build(5, 9));
    x = full("Promise 3");
    due("no room for an EVENT", -2, x.build(5, 1));
    due("-1 goes ahead of -2", -1, x.build(5, 0));
    due("-1 goes ahead of -2", -1, x.build(12, 1));
    due("-3 goes ahead of -2", -3, x.build(0, 1));
    due("-1 goes ahead of -3 and -2", -1, x.build(0, 0));
  }

  private static void refusalsOfBurn() {
    NumberedByAge x = furnished("Promise 4");
    due("none there", -3, x.burn(5));
    due("no such PLOT", -1, x.burn(12));
    due("no such PLOT", -1, x.burn(-1));
    due("burnt: its NUMBER", 1, x.burn(11));
    due("none there now", -3, x.burn(11));
    x = full("Promise 4");
    due("no room for an EVENT", -2, x.burn(0));
    due("-3 goes ahead of -2", -3, x.burn(5));
    due("-1 goes ahead of -2", -1, x.burn(12));
  }

  private static void refusalsOfEnact() {
    NumberedByAge x = furnished("Promise 5");
    due("no such SHELF", -1, x.enact(8));
    due("no such SHELF", -1, x.enact(-1));
    due("nothing held", -11, x.enact(5));
    due("a ROW", -12, x.enact(1));
    due("a ROW", -12, x.enact(2));
    due("a ROW", -12, x.enact(3));
    due("KIND before", 2, x.enact(0));
    due("KIND before", 7, x.enact(6));
    due("KIND before", 4, x.enact(6));
    x = full("Promise 5");
    due("with 30 EVENTS, too", 2, x.enact(0));
  }

  private static void refusalsOfHouse() {
    NumberedByAge x = furnished("Promise 6");
    due("NUMBER", 1, x.house(11, 0));
    due("HEIGHT", 9, x.house(11, 1));
    due("AGE", 2, x.house(11, 2));
    due("none there", -4, x.house(5, 0));
    due("none there", -4, x.house(5, 2));
    for (int what : new int[] {-1, 3, LEAST, MOST}) {
      due("no such what", -1, x.house(11, what));
      due("-1 goes ahead of -4", -1, x.house(5, what));
    }
    due("no such PLOT", -1, x.house(12, 0));
    due("no such PLOT", -1, x.house(-1, 2));
  }

  // ---- numbers

  private static void numbers() {
    NumberedByAge x = furnished("Promise 7");
    due("bits", 0x801, x.have(1));
    due("none has it", 0, x.have(2));
    due("below 1", -1, x.have(0));
    due("below 1", -1, x.have(-1));
    test = "Promise 8";
    due("whether there is a house", 2, x.would(0, 1));
    due("or not", 2, x.would(5, 1));
    due("no such PLOT", -1, x.would(12, 1));
    due("no such HEIGHT", -1, x.would(0, 10));
    test = "Promise 9";
    due("bits", 0x70E, x.where(2, 1) & ~0xF0);
    due("by the fire a second, too", 0xF0, x.where(2, 1) & 0xF0);
    due("none", 0, x.where(1, 1));
    due("below 1", -1, x.where(0, 1));
    due("no such HEIGHT", -1, x.where(2, 0));
    due("no such HEIGHT", -1, x.where(2, 10));
    test = "Promise 10";
    due("the first", 0, x.letter(1));
    due("the last", 11, x.letter(2));
    due("none", -4, x.letter(3));
    due("none", -4, x.letter(12));
    due("-1 goes ahead of -4", -1, x.letter(13));
    due("out of range", -1, x.letter(0));
    test = "Promise 11";
    due("1 and 1", 0, x.gaps());
    x.build(1, 1);
    x.burn(0);
    x.burn(11);
    due("2 alone", 1, x.gaps());
  }

  // ---- walks

  private static void walks() {
    NumberedByAge x = furnished("Promise 12");
    due("no such SHELF", -1, x.walk(8, 0));
    due("no such PLOT", -1, x.walk(2, 12));
    due("-1 goes ahead of -11", -1, x.walk(5, 12));
    due("-1 goes ahead of -12", -1, x.walk(0, -1));
    due("nothing held", -11, x.walk(5, 0));
    due("a LAW", -12, x.walk(0, 0));
    due("bytes", -12, x.walk(1, 0));
    due("ints", -12, x.walk(3, 0));
    due("none has 0", -4, x.walk(2, 0));
    test = "Promise 13";
    due("no such SHELF", -1, x.search(8, 0));
    due("no such PLOT", -1, x.search(2, 12));
    due("-1 goes ahead of -11", -1, x.search(5, 12));
    due("-1 goes ahead of -12", -1, x.search(0, -1));
    due("nothing held", -11, x.search(5, 0));
    due("a LAW", -12, x.search(0, 0));
    due("bytes", -12, x.search(1, 0));
    due("ints", -12, x.search(3, 0));
    due("none has 0", -4, x.search(2, 0));
    fill(x, 2, 1, 1);
    due("to PLOT 0", 5, x.search(2, 5));
    due("to PLOT 11", 5, x.search(2, 6));
    test = "Promise 12";
    due("to PLOT 0", 5, x.walk(2, 5));
    due("to PLOT 11", 5, x.walk(2, 6));
    test = "Promises 14, 15";
    due("1, 1", 1, x.rise());
    due("1, 1", 1, x.falls());
  }

  // ---- laws, orders, towns

  private static void lawsOrdersTowns() {
    refusalsOfByLawAndLaws();
    refusalsOfOrders();
    refusalsOfJoined();
    refusalsOfSeededAndJudge();
  }

  private static void refusalsOfByLawAndLaws() {
    NumberedByAge x = furnished("Promise 16");
    due("LAW", 2, x.byLaw(11, 0, 0));
    due("no house", -4, x.byLaw(5, 0, 0));
    due("no such PLOT", -1, x.byLaw(12, 0, 0));
    due("no such KIND", -1, x.byLaw(11, 8, 0));
    due("no such FIGURE", -1, x.byLaw(11, 0, 10));
    due("-1 goes ahead of -4", -1, x.byLaw(5, -1, 0));
    due("-1 goes ahead of -4", -1, x.byLaw(5, 0, -1));
    test = "Promise 17";
    due("QUARTER alone", 4, x.laws(0));
    due("QUARTER alone", 4, x.laws(9));
    due("no such FIGURE", -1, x.laws(10));
    due("no such FIGURE", -1, x.laws(-1));
  }

  private static void refusalsOfOrders() {
    NumberedByAge x = furnished("Promise 18");
    due("how many", 2, x.orders(0));
    due("the PLOT", 0, x.orders(1));
    due("no such what", -1, x.orders(2));
    due("no such what", -1, x.orders(-1));
    for (int plot = 1; plot <= 5; plot++) {
      x.build(plot, 1);
    }
    due("seven houses", 7, x.count(0));
    due("2 would have to be first on PLOT 4", 0, x.orders(0));
    due("none", -4, x.orders(1));
    x.build(6, 1);
    due("eight houses", -2, x.orders(0));
    due("eight houses", -2, x.orders(1));
    due("-1 goes ahead of -2", -1, x.orders(2));
  }

  private static void refusalsOfJoined() {
    NumberedByAge x = furnished("Promise 19");
    due("no such SHELF", -1, x.joined(8, 0));
    due("no such what", -1, x.joined(2, 2));
    due("no such what", -1, x.joined(2, -1));
    due("-1 goes ahead of -11", -1, x.joined(5, 2));
    due("-1 goes ahead of -12", -1, x.joined(0, 2));
    due("nothing held", -11, x.joined(5, 0));
    due("a LAW", -12, x.joined(0, 0));
    due("bytes", -12, x.joined(1, 0));
    due("ints", -12, x.joined(3, 1));
    due("one below 1", -13, x.joined(2, 0));
    due("one below 1", -13, x.joined(2, 1));
    x.row(2, 2, 0);
    due("-12 goes ahead of -13", -12, x.joined(2, 0));
    x.row(2, 1, 0);
    due("none", -13, x.joined(2, 0));
    x.row(2, 1, 21);
    due("more than 20", -13, x.joined(2, 0));
    fill(x, 2, 1, 1);
    due("how many", 1, x.joined(2, 0));
    due("NEW ONES", 1, x.joined(2, 1));
  }

  private static void refusalsOfSeededAndJudge() {
    NumberedByAge x = furnished("Promise 20");
    due("no such n", -1, x.seeded(0, 0, 0));
    due("no such n", -1, x.seeded(31, 0, 0));
    due("no such what", -1, x.seeded(1, 0, 2));
    due("no such what", -1, x.seeded(1, 0, -1));
    due("any z", 1, x.seeded(1, LEAST, 1));
    due("any z", 1, x.seeded(1, MOST, 1));
    test = "Promise 21";
    due("no such SHELF", -1, x.judge(8));
    due("no such SHELF", -1, x.judge(-1));
    due("nothing held", -11, x.judge(5));
    due("a LAW", -12, x.judge(0));
    due("bytes", 0, x.judge(1));
    due("shorts", 0, x.judge(2));
    due("ints", 0, x.judge(3));
  }

  // ---- the image, what is told

  private static void imageAndCounts() {
    test = "Promises 22, 23";
    NumberedByAge x = new NumberedByAge();
    due("there is none", -3, x.restore());
    due("there is still none", -3, x.restore());
    due("EVENTS", 0, x.image());
    due("EVENTS", 0, x.restore());
    x = furnished("Promises 22, 23");
    due("EVENTS", 3, x.restore());
    due("the house from ahead of the fire", 1, x.house(5, 0));
    due("EVENTS", 3, x.restore());
    x = full("Promises 22, 23");
    due("EVENTS", 30, x.image());
    test = "Promise 24";
    int[] dues = {2, 30, 16, 1, 2, 3};
    for (int what = 0; what < dues.length; what++) {
      due("count(" + what + ")", dues[what], x.count(what));
    }
    for (int what : new int[] {-1, 6, LEAST, MOST}) {
      due("others", -1, x.count(what));
    }
    x.burn(0);
    due("30 EVENTS, no fire", 2, x.count(0));
    x = furnished("Promise 24");
    x.burn(0);
    x.burn(11);
    due("no house", 0, x.count(0));
    due("none", 0, x.count(3));
    due("all that were built", 3, x.count(2));
  }

  // ---- shelves

  private static void shelves() {
    refusalsOfKeep();
    refusalsOfRow();
    refusalsOfPut();
    refusalsOfElement();
    refusalsOfCopy();
    placesOfCopy();
    copiesOntoItself();
    refusalsOfTaxAndToss();
    failures();
  }

  private static void refusalsOfKeep() {
    NumberedByAge x = furnished("Promise 25");
    due("no such SHELF", -1, x.keep(8, 0, 0, 0));
    due("no such SHELF", -1, x.keep(-1, 1, 0, 0));
    due("no such what", -1, x.keep(0, 2, 0, 0));
    due("no such what", -1, x.keep(0, -1, 0, 0));
    due("no such KIND", -1, x.keep(0, 1, 8, 0));
    due("no such FIGURE", -1, x.keep(0, 1, 0, 10));
    due("it is as it was", 104, x.toss(0));
    due("nothing, whatever the others are", 0, x.keep(0, 0, 8, 10));
    due("nothing", -11, x.tax(0));
    due("nothing, on a ROW", 0, x.keep(1, 0, LEAST, LEAST));
    due("nothing", -11, x.put(1, 0, 0));
    due("nothing, on nothing", 0, x.keep(5, 0, -1, -1));
    due("nothing", -11, x.tax(5));
    due("a LAW on a ROW", 0, x.keep(2, 1, 7, 9));
    due("a LAW", -7, x.tax(2));
    due("no ROW", -12, x.put(2, 0, 0));
  }

  private static void refusalsOfRow() {
    NumberedByAge x = furnished("Promise 26");
    due("no such SHELF", -1, x.row(8, 0, 1));
    due("no such SORT", -1, x.row(3, 3, 1));
    due("no such SORT", -1, x.row(3, -1, 1));
    due("n above 100", -1, x.row(3, 0, 101));
    due("n above 100", -1, x.row(3, 0, MOST));
    due("below 0", -14, x.row(3, 0, -1));
    due("below 0", -14, x.row(3, 0, LEAST));
    due("-1 goes ahead of -14", -1, x.row(8, 0, -1));
    due("-1 goes ahead of -14", -1, x.row(3, 3, -1));
    due("it is as it was", 5, x.element(3, 0));
    due("on a LAW", 0, x.row(0, 0, 100));
    due("the last place", 0, x.element(0, 99));
    due("no LAW", -12, x.tax(0));
    due("of none", 0, x.row(0, 2, 0));
    due("no place", 2, thrown(x, 0, 0));
  }

  private static void refusalsOfPut() {
    NumberedByAge x = furnished("Promise 27");
    due("no such SHELF", -1, x.put(8, 0, 1));
    due("nothing held", -11, x.put(5, 0, 1));
    due("-11 goes ahead of -13", -11, x.put(5, -1, 1));
    due("a LAW", -12, x.put(0, 0, 1));
    due("-12 goes ahead of -13", -12, x.put(0, -1, 1));
    due("no such place", -13, x.put(2, 2, 1));
    due("no such place", -13, x.put(2, -1, 1));
    due("the first", 0, x.put(2, 0, 40000));
    due("the last", 0, x.put(2, 1, 7));
    due("the first", 40000 - 65536, x.element(2, 0));
    due("the last", 7, x.element(2, 1));
  }

  private static void refusalsOfElement() {
    NumberedByAge x = furnished("Promise 28");
    due("no such SHELF", 1, thrown(x, 8, 0));
    due("no such SHELF", 1, thrown(x, -1, 0));
    due("no such SHELF goes ahead of no such place", 1, thrown(x, MOST, -1));
    due("nothing held", 2, thrown(x, 5, 0));
    due("a LAW", 2, thrown(x, 0, 0));
    due("no such place", 2, thrown(x, 2, 2));
    due("no such place", 2, thrown(x, 2, -1));
    due("the first", 0, thrown(x, 2, 0));
    due("the last", 0, thrown(x, 2, 1));
    due("the last", 1, x.element(2, 1));
  }

  private static void refusalsOfCopy() {
    NumberedByAge x = furnished("Promise 29");
    fill(x, 7, 0, 9, 9, 9, 9, 9);
    due("no such SHELF", -1, x.copy(8, 0, 1, 0, 1));
    due("no such SHELF", -1, x.copy(1, 0, 8, 0, 1));
    due("-1 goes ahead of -11", -1, x.copy(5, 0, 8, 0, 1));
    due("-1 goes ahead of -12", -1, x.copy(0, 0, -1, 0, 1));
    due("nothing held", -11, x.copy(5, 0, 1, 0, 1));
    due("nothing held", -11, x.copy(1, 0, 5, 0, 1));
    due("-11 goes ahead of -12", -11, x.copy(0, 0, 5, 0, 1));
    due("-11 goes ahead of -12", -11, x.copy(5, 0, 0, 0, 1));
    due("-11 goes ahead of -13", -11, x.copy(1, -1, 5, 0, 1));
    due("a LAW", -12, x.copy(0, 0, 1, 0, 1));
    due("a LAW", -12, x.copy(1, 0, 0, 0, 1));
    due("two LAWS", -12, x.copy(0, 0, 4, 0, 0));
    due("bytes to shorts", -12, x.copy(1, 0, 2, 0, 1));
    due("shorts to ints", -12, x.copy(2, 0, 3, 0, 1));
    due("ints to bytes", -12, x.copy(3, 0, 1, 0, 1));
    due("-12 goes ahead of -13", -12, x.copy(1, 9, 2, 9, 1));
    due("one SORT", 1, x.copy(1, 0, 7, 0, 1));
    due("element", 'f', x.element(7, 0));
  }

  private static void placesOfCopy() {
    NumberedByAge x = furnished("Promise 29");
    fill(x, 7, 0, 9, 9, 9, 9, 9);
    due("as many as there are", 4, x.copy(1, 0, 7, 1, 4));
    due("ahead of it", 9, x.element(7, 0));
    for (int i = 0; i < 4; i++) {
      due("element", "f05;".charAt(i), x.element(7, i + 1));
      due("it stays where it was", "f05;".charAt(i), x.element(1, i));
    }
    due("one too many here", -13, x.copy(1, 0, 7, 0, 5));
    due("one too many there", -13, x.copy(7, 0, 1, 0, 5));
    due("one too far here", -13, x.copy(1, 1, 7, 0, 4));
    due("one too far there", -13, x.copy(1, 0, 7, 2, 4));
    due("none at the end", 0, x.copy(1, 4, 7, 5, 0));
    due("none behind the end here", -13, x.copy(1, 5, 7, 0, 0));
    due("none behind the end there", -13, x.copy(1, 0, 7, 6, 0));
    due("below 0 here", -13, x.copy(1, -1, 7, 0, 1));
    due("below 0 there", -13, x.copy(1, 0, 7, -1, 1));
    due("n below 0", -13, x.copy(1, 1, 7, 1, -1));
    due("sums that run over", -13, x.copy(1, MOST, 7, MOST, MOST));
    due("sums that run over", -13, x.copy(1, MOST, 7, 0, 1));
    due("sums that run over", -13, x.copy(1, 0, 7, MOST, 1));
    due("sums that run over", -13, x.copy(1, LEAST, 7, LEAST, LEAST));
    due("sums that run over", -13, x.copy(1, 1, 7, 1, LEAST));
    due("it is as it was", 9, x.element(7, 0));
    due("it is as it was", ';', x.element(7, 4));
    x.row(5, 0, 100);
    x.row(6, 0, 100);
    x.put(5, 99, 3);
    due("a hundred", 100, x.copy(5, 0, 6, 0, 100));
    due("the hundredth", 3, x.element(6, 99));
  }

  private static void copiesOntoItself() {
    NumberedByAge x = furnished("Promise 29");
    fill(x, 7, 2, 1, 2, 3, 4, 5);
    due("one place on", 4, x.copy(7, 0, 7, 1, 4));
    for (int i = 0; i < 5; i++) {
      due("element", new int[] {1, 1, 2, 3, 4}[i], x.element(7, i));
    }
    due("two places back", 3, x.copy(7, 2, 7, 0, 3));
    for (int i = 0; i < 5; i++) {
      due("element", new int[] {2, 3, 4, 3, 4}[i], x.element(7, i));
    }
    due("where it is", 5, x.copy(7, 0, 7, 0, 5));
    for (int i = 0; i < 5; i++) {
      due("element", new int[] {2, 3, 4, 3, 4}[i], x.element(7, i));
    }
  }

  private static void refusalsOfTaxAndToss() {
    NumberedByAge x = furnished("Promises 30, 31");
    for (int d : new int[] {-1, 8, LEAST, MOST}) {
      due("tax", -1, x.tax(d));
      due("toss", -1, x.toss(d));
    }
    due("nothing held", -11, x.tax(5));
    due("nothing held", -11, x.toss(5));
    for (int d : new int[] {1, 2, 3, 7}) {
      due("a ROW", -12, x.tax(d));
      due("a ROW", -12, x.toss(d));
    }
    due("SIDE", -2, x.tax(0));
    due("SIDE", 104, x.toss(0));
    due("TWICE", 3, x.tax(6));
    due("TWICE has none", -15, x.toss(6));
  }

  private static void failures() {
    NumberedByAge x = furnished("Promise 31");
    int[][] dues = {
      {-15, 1, 9}, {-15, 1, 9}, {-15, 1, 9}, {-15, 1, 9}, {-15, -15, -15}, {-15, 1, 9}, {-15, 208, 224}, {-15, 101, 109}
    };
    int[] figures = {0, 1, 9};
    for (int kind = 0; kind < 8; kind++) {
      for (int i = 0; i < figures.length; i++) {
        x.keep(0, 1, kind, figures[i]);
        due("KIND " + kind + ", FIGURE " + figures[i], dues[kind][i], x.toss(0));
      }
    }
  }

  // ---- a refused call changes nothing

  private static void refusedCallsChangeNothing() {
    refusedOfStreets();
    refusedOfAsking();
    refusedOfShelves();
    refusedOfAFullStreet();
    refusedRestore();
  }

  private static void refused(String call, int want, ToLongFunction<NumberedByAge> refused) {
    refusedIn(furnished("refused " + call), call, want, refused);
  }

  private static void refusedIn(NumberedByAge x, String call, int want, ToLongFunction<NumberedByAge> refused) {
    String before = seen(x);
    due(call, want, refused.applyAsLong(x));
    String after = seen(x);
    if (!after.equals(before)) {
      wrong++;
      System.out.println(test + " changed " + before + "\nto " + after);
    }
    due("THE IMAGE behind " + call, 3, x.restore());
    due("THE IMAGE behind " + call, 1, x.house(5, 0));
  }

  private static void refusedOfStreets() {
    refused("street(8)", -1, x -> x.street(8));
    refused("street(5)", -11, x -> x.street(5));
    refused("street(0)", -12, x -> x.street(0));
    refused("street(2)", -12, x -> x.street(2));
    refused("street(7)", -1002, x -> x.street(7));
    refused("street(1)", -2000, x -> x.street(1));
    refused("build(12, 1)", -1, x -> x.build(12, 1));
    refused("build(-1, 1)", -1, x -> x.build(-1, 1));
    refused("build(5, 0)", -1, x -> x.build(5, 0));
    refused("build(5, 10)", -1, x -> x.build(5, 10));
    refused("build(0, 9)", -3, x -> x.build(0, 9));
    refused("burn(12)", -1, x -> x.burn(12));
    refused("burn(5)", -3, x -> x.burn(5));
    refused("enact(8)", -1, x -> x.enact(8));
    refused("enact(5)", -11, x -> x.enact(5));
    refused("enact(1)", -12, x -> x.enact(1));
    refused("house(12, 0)", -1, x -> x.house(12, 0));
    refused("house(0, 3)", -1, x -> x.house(0, 3));
    refused("house(5, 0)", -4, x -> x.house(5, 0));
  }

  private static void refusedOfAsking() {
    refused("have(0)", -1, x -> x.have(0));
    refused("would(12, 1)", -1, x -> x.would(12, 1));
    refused("where(0, 1)", -1, x -> x.where(0, 1));
    refused("letter(13)", -1, x -> x.letter(13));
    refused("letter(3)", -4, x -> x.letter(3));
    refused("walk(2, 12)", -1, x -> x.walk(2, 12));
    refused("walk(5, 0)", -11, x -> x.walk(5, 0));
    refused("walk(1, 0)", -12, x -> x.walk(1, 0));
    refused("walk(2, 0)", -4, x -> x.walk(2, 0));
    refused("search(2, 12)", -1, x -> x.search(2, 12));
    refused("search(5, 0)", -11, x -> x.search(5, 0));
    refused("search(1, 0)", -12, x -> x.search(1, 0));
    refused("search(2, 0)", -4, x -> x.search(2, 0));
    refused("byLaw(0, 8, 0)", -1, x -> x.byLaw(0, 8, 0));
    refused("byLaw(5, 0, 0)", -4, x -> x.byLaw(5, 0, 0));
    refused("laws(10)", -1, x -> x.laws(10));
    refused("orders(2)", -1, x -> x.orders(2));
    refused("joined(2, 2)", -1, x -> x.joined(2, 2));
    refused("joined(5, 0)", -11, x -> x.joined(5, 0));
    refused("joined(1, 0)", -12, x -> x.joined(1, 0));
    refused("joined(2, 0)", -13, x -> x.joined(2, 0));
    refused("seeded(31, 0, 0)", -1, x -> x.seeded(31, 0, 0));
    refused("judge(8)", -1, x -> x.judge(8));
    refused("judge(5)", -11, x -> x.judge(5));
    refused("judge(0)", -12, x -> x.judge(0));
    refused("count(6)", -1, x -> x.count(6));
  }

  private static void refusedOfShelves() {
    refused("keep(8, 1, 0, 0)", -1, x -> x.keep(8, 1, 0, 0));
    refused("keep(1, 2, 0, 0)", -1, x -> x.keep(1, 2, 0, 0));
    refused("keep(1, 1, 8, 0)", -1, x -> x.keep(1, 1, 8, 0));
    refused("keep(0, 1, 0, 10)", -1, x -> x.keep(0, 1, 0, 10));
    refused("row(8, 0, 1)", -1, x -> x.row(8, 0, 1));
    refused("row(3, 3, 1)", -1, x -> x.row(3, 3, 1));
    refused("row(3, 0, 101)", -1, x -> x.row(3, 0, 101));
    refused("row(3, 0, -1)", -14, x -> x.row(3, 0, -1));
    refused("put(8, 0, 9)", -1, x -> x.put(8, 0, 9));
    refused("put(5, 0, 9)", -11, x -> x.put(5, 0, 9));
    refused("put(0, 0, 9)", -12, x -> x.put(0, 0, 9));
    refused("put(2, 2, 9)", -13, x -> x.put(2, 2, 9));
    refused("put(2, -1, 9)", -13, x -> x.put(2, -1, 9));
    refused("element(8, 0)", 1, x -> thrown(x, 8, 0));
    refused("element(5, 0)", 2, x -> thrown(x, 5, 0));
    refused("element(2, 2)", 2, x -> thrown(x, 2, 2));
    refused("copy(8, 0, 1, 0, 1)", -1, x -> x.copy(8, 0, 1, 0, 1));
    refused("copy(5, 0, 1, 0, 1)", -11, x -> x.copy(5, 0, 1, 0, 1));
    refused("copy(1, 0, 5, 0, 1)", -11, x -> x.copy(1, 0, 5, 0, 1));
    refused("copy(1, 0, 2, 0, 1)", -12, x -> x.copy(1, 0, 2, 0, 1));
    refused("copy(1, 0, 0, 0, 1)", -12, x -> x.copy(1, 0, 0, 0, 1));
    refused("copy(1, 0, 7, 0, 3)", -13, x -> x.copy(1, 0, 7, 0, 3));
    refused("copy(1, 3, 7, 0, 2)", -13, x -> x.copy(1, 3, 7, 0, 2));
    refused("copy(1, 1, 1, 0, -1)", -13, x -> x.copy(1, 1, 1, 0, -1));
    refused("tax(8)", -1, x -> x.tax(8));
    refused("tax(5)", -11, x -> x.tax(5));
    refused("tax(1)", -12, x -> x.tax(1));
    refused("toss(8)", -1, x -> x.toss(8));
    refused("toss(5)", -11, x -> x.toss(5));
    refused("toss(1)", -12, x -> x.toss(1));
    refused("toss(6)", -15, x -> x.toss(6));
  }

  private static void refusedOfAFullStreet() {
    refusedIn(full("refused build"), "build(5, 1)", -2, x -> x.build(5, 1));
    refusedIn(full("refused build"), "build(0, 1)", -3, x -> x.build(0, 1));
    refusedIn(full("refused burn"), "burn(0)", -2, x -> x.burn(0));
    refusedIn(full("refused burn"), "burn(5)", -3, x -> x.burn(5));
    NumberedByAge x = full("refused street");
    fillText(x, 7, "l45;f00;");
    refusedIn(x, "street(7)", -2004, y -> y.street(7));
    x = furnished("refused orders");
    for (int plot = 1; plot <= 6; plot++) {
      x.build(plot, 1);
    }
    refusedIn(x, "orders(0)", -2, y -> y.orders(0));
  }

  private static void refusedRestore() {
    test = "refused restore";
    NumberedByAge x = new NumberedByAge();
    x.row(1, 0, 1);
    x.keep(0, 1, 4, 4);
    x.enact(0);
    x.build(3, 3);
    String before = seen(x);
    due("restore", -3, x.restore());
    if (!seen(x).equals(before)) {
      wrong++;
      System.out.println("a refused restore changed " + before + "\nto " + seen(x));
    }
  }

  private static void askingChangesNothing() {
    refusedIn(furnished("asking"), "each call that only asks", 0, x -> {
      due("have", 0x801, x.have(1));
      due("laws", 4, x.laws(0));
      due("orders", 2, x.orders(0));
      due("orders", 0, x.orders(1));
      due("seeded", 4, x.seeded(30, 5, 1));
      due("judge", 0, x.judge(1));
      due("where", 0, x.where(1, 9));
      due("letter", 11, x.letter(2));
      due("gaps", 0, x.gaps());
      due("rise", 1, x.rise());
      due("falls", 1, x.falls());
      return 0;
    });
  }

  // ---- whatever the arguments are

  /** All calls with arguments far out and near the bounds: none of them throws but element, and that as told. */
  private static void extremesNeverThrow() {
    for (int a : EXTREMES) {
      for (int b : EXTREMES) {
        NumberedByAge x = furnished("extremes " + a + ", " + b);
        try {
          callWith(x, a, b);
        } catch (RuntimeException e) {
          wrong++;
          System.out.println(test + " threw " + e);
        }
      }
    }
  }

  private static void callWith(NumberedByAge x, int a, int b) {
    x.have(a);
    x.would(a, b);
    x.where(a, b);
    x.letter(a);
    x.walk(a, b);
    x.search(a, b);
    x.walk(2, a);
    x.search(2, a);
    x.byLaw(a, b, 0);
    x.byLaw(0, a, b);
    x.laws(a);
    x.orders(a);
    x.joined(a, b);
    x.seeded(a, b, 0);
    x.seeded(30, a, b);
    x.judge(a);
    x.count(a);
    x.house(a, b);
    thrown(x, a, b);
    for (int c : EXTREMES) {
      x.copy(1, a, 1, b, c);
      x.copy(a, 0, b, 0, c);
      x.put(a, b, c);
      x.seeded(a, b, c);
    }
    x.tax(a);
    x.toss(a);
    x.build(a, b);
    x.burn(a);
    x.street(a);
    x.enact(a);
    x.keep(a, b, 0, 0);
    x.keep(0, 1, a, b);
    x.row(a, 0, b);
    x.row(0, a, b);
    x.put(0, b, a);
    x.judge(0);
    x.gaps();
    x.rise();
    x.falls();
    x.restore();
  }

  // ---- as many calls as an object is used for

  private static void callsToTheLast() {
    test = "at most 512 calls";
    NumberedByAge x = new NumberedByAge();
    x.keep(0, 1, 2, 0);
    x.enact(0);
    int[] plots = {8, 4, 0, 9, 5, 1, 10};
    for (int plot : plots) {
      x.build(plot, 1);
    }
    for (int call = 10; call <= 512; call++) {
      due("orders, call " + call, call % 2 == 0 ? 210 : 0, x.orders(call % 2));
    }
    x = new NumberedByAge();
    for (int call = 1; call <= 512; call++) {
      int d = call % 8;
      due("call " + call, 0, call % 3 == 0 ? x.keep(d, 1, d, 9) : x.row(d, call % 3, 100));
    }
    x = new NumberedByAge();
    for (int call = 1; call <= 256; call++) {
      due("burn or build, call " + call, call <= 30 ? (call + 1) / 2 : call % 2 == 0 ? -3 : -2,
          call % 2 == 0 ? x.burn(0) : x.build(0, 1));
      due("image, call " + call, Math.min(call, 30), x.image());
    }
  }
}
