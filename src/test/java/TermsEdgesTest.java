/** Each sentence under 'Terms' of ../shared/DOC.md that names a boundary, by a test of its own, worked out by hand. */
public final class TermsEdgesTest {
  private static final int LEAST = Integer.MIN_VALUE;
  private static final int MOST = Integer.MAX_VALUE;
  private static int wrong = 0;
  private static int tested = 0;
  private static String sentence = "";

  public static void main(String[] args) {
    plotsEventsHeights();
    numbersOfHouses();
    housesAndTaxes();
    shelves();
    streetsAsTexts();
    numbers();
    walks();
    lawsOrdersTowns();
    seedsJudgedImage();
    saidOnceMore();
    System.out.println(wrong == 0
        ? "all answers are as due by " + tested + " sentences"
        : wrong + " answers are not as due");
    if (wrong != 0) {
      System.exit(1);
    }
  }

  // ---- what the tests are written with

  private static void due(String call, long want, long got) {
    if (got != want) {
      wrong++;
      System.out.println("\"" + sentence + "\": " + call + " answered " + got + ", due is " + want);
    }
  }

  /** A new object for the test of a sentence. */
  private static NumberedByAge begin(String ofSentence) {
    sentence = ofSentence;
    tested++;
    return new NumberedByAge();
  }

  private static NumberedByAge under(String ofSentence, int kind, int figure) {
    NumberedByAge x = begin(ofSentence);
    inForce(x, kind, figure);
    return x;
  }

  /** Puts a LAW in force by SHELF 7. */
  private static void inForce(NumberedByAge x, int kind, int figure) {
    due("keep", 0, x.keep(7, 1, kind, figure));
    x.enact(7);
  }

  private static void fill(NumberedByAge x, int d, int sort, int... values) {
    due("row", 0, x.row(d, sort, values.length));
    for (int i = 0; i < values.length; i++) {
      due("put", 0, x.put(d, i, values[i]));
    }
  }

  /** Reads a text by SHELF 6. */
  private static int read(NumberedByAge x, String text) {
    int[] bytes = new int[text.length()];
    for (int i = 0; i < bytes.length; i++) {
      bytes[i] = text.charAt(i);
    }
    fill(x, 6, 0, bytes);
    return x.street(6);
  }

  /** What a text answers in a new object. */
  private static void dueOfText(String text, int want) {
    due("street of '" + text + "'", want, read(new NumberedByAge(), text));
  }

  private static void dueBuilt(NumberedByAge x, int plot, int height, int want) {
    due("build(" + plot + ", " + height + ")", want, x.build(plot, height));
  }

  private static void dueNumbers(NumberedByAge x, int... wants) {
    for (int plot = 0; plot < wants.length; plot++) {
      due("NUMBER on PLOT " + plot, wants[plot] == 0 ? -4 : wants[plot], x.house(plot, 0));
    }
  }

  private static void dueCounts(NumberedByAge x, int... wants) {
    for (int what = 0; what < wants.length; what++) {
      due("count(" + what + ")", wants[what], x.count(what));
    }
  }

  /** Houses on PLOTS 0 to plots - 1, of HEIGHT 1. */
  private static void buildRow(NumberedByAge x, int plots) {
    for (int plot = 0; plot < plots; plot++) {
      x.build(plot, 1);
    }
  }

  /** Makes EVENTS: the house of a PLOT burns down and is built anew, so many times. */
  private static void renew(NumberedByAge x, int plot, int times) {
    for (int i = 0; i < times; i++) {
      x.burn(plot);
      x.build(plot, 1);
    }
  }

  /** 0: there is an element; 1: IllegalArgumentException; 2: IllegalStateException. */
  private static int thrown(NumberedByAge x, int d, int i) {
    try {
      x.element(d, i);
      return 0;
    } catch (IllegalArgumentException e) {
      return 1;
    } catch (IllegalStateException e) {
      return 2;
    }
  }

  // ---- 1: PLOTS, EVENTS, HEIGHTS

  private static void plotsEventsHeights() {
    plotsInARow();
    plotsOutOfTheRow();
    quarterOfAPlot();
    lawAtFirst();
    kinds();
    figures();
    eventsByCalls();
    eventsByTexts();
    heights();
  }

  private static void plotsInARow() {
    NumberedByAge x = begin("PLOTS 0 .. 11 in a row");
    fill(x, 0, 1);
    dueBuilt(x, 0, 1, 1);
    dueBuilt(x, 11, 1, 2);
    for (int plot : new int[] {0, 11}) {
      int number = plot == 0 ? 1 : 2;
      due("house", number, x.house(plot, 0));
      due("would", 3, x.would(plot, 1));
      due("walk", 0, x.walk(0, plot));
      due("search", 0, x.search(0, plot));
      due("byLaw", number, x.byLaw(plot, 0, 0));
      due("burn", number, x.burn(plot));
    }
    due("street", 4, read(x, "b001;b111;f00;f11;"));
  }

  private static void plotsOutOfTheRow() {
    NumberedByAge x = begin("PLOTS 0 .. 11 in a row");
    fill(x, 0, 1);
    for (int plot : new int[] {-1, 12, 16, LEAST, MOST}) {
      due("build", -1, x.build(plot, 1));
      due("burn", -1, x.burn(plot));
      due("house", -1, x.house(plot, 0));
      due("would", -1, x.would(plot, 1));
      due("walk", -1, x.walk(0, plot));
      due("search", -1, x.search(0, plot));
      due("byLaw", -1, x.byLaw(plot, 0, 0));
    }
    dueCounts(x, 0, 0, 0, 0, 0, 0);
    dueOfText("b121;", -2000);
    dueOfText("b991;", -2000);
    dueOfText("f12;", -2000);
    dueOfText("f99;", -2000);
  }

  private static void quarterOfAPlot() {
    NumberedByAge x = under("QUARTER of a PLOT: it by 4, cut", 2, 0);
    buildRow(x, 12);
    dueNumbers(x, 1, 2, 3, 4, 1, 2, 3, 4, 1, 2, 3, 4);
  }

  private static void lawAtFirst() {
    NumberedByAge x = begin("0 LAW (at first, with FIGURE 0)");
    due("KIND", 0, x.count(4));
    due("FIGURE", 0, x.count(5));
    due("would", 1, x.would(0, 9));
    x.keep(0, 1, 7, 1);
    due("KIND before", 0, x.enact(0));
    due("KIND before", 7, x.enact(0));
  }

  private static void kinds() {
    NumberedByAge x = begin("A LAW in force has a KIND: 0 LAW");
    x.build(0, 1);
    due("the first KIND", 0, x.keep(0, 1, 0, 0));
    due("the last KIND", 0, x.keep(0, 1, 7, 0));
    due("the first KIND", 1, x.byLaw(0, 0, 0));
    due("the last KIND", 1, x.byLaw(0, 7, 0));
    for (int kind : new int[] {-1, 8, LEAST, MOST}) {
      due("keep", -1, x.keep(0, 1, kind, 0));
      due("byLaw", -1, x.byLaw(0, kind, 0));
    }
    due("laws", 0, x.laws(0) & ~255);
    dueOfText("l00;", 1);
    dueOfText("l70;", 1);
    dueOfText("l80;", -2000);
    dueOfText("l90;", -2000);
  }

  private static void figures() {
    NumberedByAge x = begin("a FIGURE (0 .. 9)");
    x.build(0, 1);
    for (int figure : new int[] {0, 9}) {
      due("keep", 0, x.keep(0, 1, 3, figure));
      due("byLaw", 1 + figure, x.byLaw(0, 3, figure));
      due("laws has KIND 0", 1, x.laws(figure) & 1);
    }
    for (int figure : new int[] {-1, 10, LEAST, MOST}) {
      due("keep", -1, x.keep(0, 1, 3, figure));
      due("byLaw", -1, x.byLaw(0, 3, figure));
      due("laws", -1, x.laws(figure));
    }
    due("street", 1, read(x, "l39;"));
    dueCounts(x, 1, 1, 1, 1, 3, 9);
    due("street", 1, read(x, "l30;"));
    dueCounts(x, 1, 1, 1, 1, 3, 0);
  }

  private static void eventsByCalls() {
    NumberedByAge x = begin("EVENTS (30 at most)");
    buildRow(x, 11);
    renew(x, 0, 9);
    due("EVENTS", 29, x.count(1));
    due("the 30th", 5, x.burn(4));
    due("EVENTS", 30, x.count(1));
    due("build, the 31st", -2, x.build(4, 1));
    due("build, the 31st", -2, x.build(11, 9));
    due("burn, the 31st", -2, x.burn(0));
    dueCounts(x, 10, 30, 20, 20, 0, 0);
    due("all 30 by another LAW", 40, x.byLaw(0, 4, 0));
    x = begin("EVENTS (30 at most)");
    buildRow(x, 11);
    renew(x, 0, 9);
    dueBuilt(x, 11, 1, 21);
    due("EVENTS", 30, x.count(1));
    due("burn, the 31st", -2, x.burn(11));
  }

  private static void eventsByTexts() {
    NumberedByAge x = begin("EVENTS (30 at most)");
    buildRow(x, 11);
    renew(x, 0, 9);
    due("the second has no room", -2005, read(x, "b111;f11;"));
    due("EVENTS", 29, x.count(1));
    due("a LAW is none", 3, read(x, "l10;b111;l20;"));
    due("EVENTS", 30, x.count(1));
    due("b", -2000, read(x, "f00;"));
    due("l", 2, read(x, "l30;l45;"));
    dueCounts(x, 12, 30, 21, 20, 4, 5);
  }

  private static void heights() {
    NumberedByAge x = begin("a HEIGHT (1 .. 9)");
    dueBuilt(x, 0, 1, 1);
    dueBuilt(x, 1, 9, 2);
    due("HEIGHT", 1, x.house(0, 1));
    due("HEIGHT", 9, x.house(1, 1));
    due("would", 3, x.would(2, 1));
    due("would", 3, x.would(2, 9));
    due("where", 0xFFC, x.where(3, 1));
    due("where", 0xFFC, x.where(3, 9));
    for (int height : new int[] {0, 10, -1, LEAST, MOST}) {
      due("build", -1, x.build(2, height));
      due("would", -1, x.would(2, height));
      due("where", -1, x.where(3, height));
    }
    dueCounts(x, 2, 2, 2, 2);
    dueOfText("b001;", 1);
    dueOfText("b009;", 1);
    dueOfText("b000;", -2000);
  }

  // ---- 1: what NUMBER a house gets

  private static void numbersOfHouses() {
    numbersByLaw();
    numbersByGap();
    numbersByGapOfNoneAndAll();
    numbersByQuarter();
    numbersByHigh();
    numbersByTwice();
    numbersBySkip();
    numbersBySkipOfAll();
    numbersByLastOfNone();
    numbersByLastAtFigure();
    numbersBySide();
  }

  private static void numbersByLaw() {
    NumberedByAge x = begin("LAW one more than how many have been built so far");
    due("the first", 1, x.would(5, 1));
    buildRow(x, 12);
    renew(x, 11, 9);
    due("NUMBER", 21, x.house(11, 0));
    due("NUMBER", 11, x.house(10, 0));
    due("the greatest that there can be", 22, x.would(0, 9));
  }

  private static void numbersByGap() {
    NumberedByAge x = under("GAP the least from 1 on that no house has now", 1, 9);
    buildRow(x, 4);
    dueNumbers(x, 1, 2, 3, 4);
    x.burn(3);
    due("the greatest is free", 4, x.would(5, 1));
    x.burn(1);
    due("one between is free", 2, x.would(5, 1));
    x.burn(0);
    due("1 is free", 1, x.would(5, 1));
    dueBuilt(x, 0, 1, 1);
    dueBuilt(x, 1, 1, 2);
    dueBuilt(x, 3, 1, 4);
    inForce(x, 2, 0);
    dueBuilt(x, 4, 1, 1);
    inForce(x, 1, 0);
    due("1 twice", 5, x.would(5, 1));
    x.burn(0);
    due("1 is still had", 5, x.would(5, 1));
  }

  private static void numbersByGapOfNoneAndAll() {
    NumberedByAge x = under("GAP the least from 1 on that no house has now", 1, 0);
    due("no house", 1, x.would(0, 1));
    buildRow(x, 12);
    due("all PLOTS", 13, x.would(0, 1));
    x.burn(6);
    due("all but one", 7, x.would(0, 1));
    x = under("GAP the least from 1 on that no house has now", 3, 9);
    dueBuilt(x, 0, 9, 82);
    inForce(x, 1, 0);
    due("a great one leaves all below free", 1, x.would(1, 1));
  }

  private static void numbersByQuarter() {
    NumberedByAge x = under("QUARTER one more than how many have been built so far in the QUARTER of the PLOT", 2, 0);
    dueBuilt(x, 3, 1, 1);
    dueBuilt(x, 4, 1, 1);
    dueBuilt(x, 7, 1, 2);
    dueBuilt(x, 8, 1, 1);
    dueBuilt(x, 11, 1, 2);
    dueBuilt(x, 0, 1, 2);
    x.burn(7);
    due("burnt ones, too", 3, x.would(6, 1));
    inForce(x, 0, 0);
    dueBuilt(x, 9, 1, 7);
    inForce(x, 2, 0);
    due("those by other LAWS, too", 4, x.would(10, 1));
    renew(x, 0, 11);
    due("the most EVENTS", 30, x.count(1));
    due("all in one QUARTER", 14, x.would(3, 1));
  }

  private static void numbersByHigh() {
    NumberedByAge x = under("HIGH a LAW's, and FIGURE times its HEIGHT more", 3, 0);
    due("FIGURE 0", 1, x.would(0, 9));
    inForce(x, 3, 1);
    due("1 times 1", 2, x.would(0, 1));
    inForce(x, 3, 9);
    due("9 times 1", 10, x.would(0, 1));
    due("9 times 9", 82, x.would(0, 9));
    buildRow(x, 12);
    renew(x, 0, 9);
    due("the greatest that there can be", 22 + 81, x.would(0, 9));
  }

  private static void numbersByTwice() {
    NumberedByAge x = under("TWICE twice a LAW's", 4, 9);
    due("the first", 2, x.would(0, 9));
    buildRow(x, 12);
    renew(x, 0, 9);
    due("the last", 42, x.house(0, 0));
    due("the greatest that there can be", 44, x.would(0, 1));
  }

  private static void numbersBySkip() {
    // By FIGURES 2 to 9: what the 1st, 2nd, .. place to the 9th gets, then the 20th to the 22nd.
    int[][] dues = {
      {1, 3, 5, 7, 9, 11, 13, 15, 17, 39, 41, 43},
      {1, 2, 4, 5, 7, 8, 10, 11, 13, 29, 31, 32},
      {1, 2, 3, 5, 6, 7, 9, 10, 11, 26, 27, 29},
      {1, 2, 3, 4, 6, 7, 8, 9, 11, 24, 26, 27},
      {1, 2, 3, 4, 5, 7, 8, 9, 10, 23, 25, 26},
      {1, 2, 3, 4, 5, 6, 8, 9, 10, 23, 24, 25},
      {1, 2, 3, 4, 5, 6, 7, 9, 10, 22, 23, 25},
      {1, 2, 3, 4, 5, 6, 7, 8, 10, 22, 23, 24}
    };
    for (int figure = 2; figure <= 9; figure++) {
      NumberedByAge x = under("numbers 1, 2, .. that can't be divided by FIGURE", 5, figure);
      int[] wants = dues[figure - 2];
      for (int place = 0; place < 9; place++) {
        dueBuilt(x, place, 9 - place, wants[place]);
      }
      x.build(9, 1);
      x.build(10, 1);
      x.build(11, 1);
      renew(x, 0, 7);
      for (int i = 9; i < 12; i++) {
        due("the " + (i + 11) + "th by " + figure, wants[i], x.would(0, 1));
        renew(x, 0, 1);
      }
    }
  }

  private static void numbersBySkipOfAll() {
    for (int figure = 0; figure < 2; figure++) {
      NumberedByAge x = under("(all, if FIGURE is below 2)", 5, figure);
      buildRow(x, 12);
      dueNumbers(x, 1, 2, 3, 4, 5, 6, 7, 8, 9, 10, 11, 12);
      renew(x, 0, 9);
      due("the last", 22, x.would(0, 1));
    }
  }

  private static void numbersByLastOfNone() {
    NumberedByAge x = begin("LAST one more than the greatest that a house has now (1: there is none)");
    for (int figure = 0; figure <= 9; figure++) {
      inForce(x, 6, figure);
      due("no house, FIGURE " + figure, 1, x.would(0, 1));
    }
    inForce(x, 3, 9);
    dueBuilt(x, 3, 9, 82);
    inForce(x, 6, 0);
    dueBuilt(x, 0, 1, 83);
    x.burn(0);
    due("the greatest now", 83, x.would(0, 1));
    x.burn(3);
    due("none again", 1, x.would(0, 1));
  }

  private static void numbersByLastAtFigure() {
    NumberedByAge x = begin("but a GAP's, if a GAP's is below FIGURE");
    buildRow(x, 12);
    x.burn(0);
    for (int figure = 0; figure <= 9; figure++) {
      inForce(x, 6, figure);
      due("a GAP's 1, FIGURE " + figure, figure < 2 ? 13 : 1, x.would(0, 1));
    }
    x = begin("but a GAP's, if a GAP's is below FIGURE");
    buildRow(x, 12);
    x.burn(7);
    inForce(x, 6, 8);
    due("a GAP's 8, FIGURE 8", 13, x.would(0, 1));
    inForce(x, 6, 9);
    due("a GAP's 8, FIGURE 9", 8, x.would(0, 1));
    dueBuilt(x, 7, 1, 8);
    x.burn(8);
    due("a GAP's 9, FIGURE 9", 13, x.would(0, 1));
  }

  private static void numbersBySide() {
    NumberedByAge x = under("SIDE twice a QUARTER's, less 1 if the PLOT is even", 7, 9);
    for (int plot = 0; plot < 12; plot++) {
      due("the first on PLOT " + plot, plot % 2 == 0 ? 1 : 2, x.would(plot, 1));
    }
    buildRow(x, 12);
    dueNumbers(x, 1, 4, 5, 8, 1, 4, 5, 8, 1, 4, 5, 8);
  }

  // ---- 1: houses, TAX

  private static void housesAndTaxes() {
    agesOfHouses();
    noRoomForAnother();
    taxes();
  }

  private static void agesOfHouses() {
    NumberedByAge x = begin("AGE (how many EVENTS there have been since, that of its building not)");
    x.build(11, 1);
    due("its building is not counted", 0, x.house(11, 2));
    x.build(0, 1);
    due("one since", 1, x.house(11, 2));
    x.burn(0);
    due("a fire is one, too", 2, x.house(11, 2));
    inForce(x, 1, 1);
    due("a LAW is none", 2, x.house(11, 2));
    x.build(0, 1);
    renew(x, 0, 13);
    due("EVENTS", 30, x.count(1));
    due("the greatest that there can be", 29, x.house(11, 2));
    due("the youngest", 0, x.house(0, 2));
  }

  private static void noRoomForAnother() {
    NumberedByAge x = begin("A PLOT with a house has no room for another one.");
    x.build(0, 1);
    x.build(11, 9);
    due("build", -3, x.build(0, 1));
    due("build", -3, x.build(11, 1));
    due("street", -2000, read(x, "b002;"));
    due("where", 0x7FE, x.where(3, 1));
    x.burn(0);
    due("there is room again", 3, x.build(0, 1));
    due("build", -3, x.build(0, 1));
  }

  private static void taxes() {
    NumberedByAge x = begin("TAX of a LAW: LAW 3; GAP a LAW's and FIGURE");
    int[][] dues = {{3, 3, 3}, {3, 4, 12}, {2, 2, 2}, {6, 6, 6}, {3, 3, 3}, {7, 7, 7}, {6, 8, 24}, {2, 1, -7}};
    int[] figures = {0, 1, 9};
    for (int kind = 0; kind < 8; kind++) {
      for (int i = 0; i < figures.length; i++) {
        x.keep(0, 1, kind, figures[i]);
        due("tax of KIND " + kind + " FIGURE " + figures[i], dues[kind][i], x.tax(0));
      }
    }
    x.keep(0, 1, 7, 2);
    due("TAX 0 is no refusal", 0, x.tax(0));
    x.keep(0, 1, 7, 3);
    due("TAX -1 is no refusal", -1, x.tax(0));
  }

  // ---- 1: SHELVES

  private static void shelves() {
    shelvesHoldNothingAtFirst();
    shelvesThatThereAreNot();
    elementsAtFirst();
    sortsOfRows();
    lowestBits();
    nothingHeld();
    otherKind();
    placesThatAreNotThere();
    sizesBelow0();
    failuresThatAreNone();
  }

  private static void shelvesHoldNothingAtFirst() {
    NumberedByAge x = begin("SHELVES 0 .. 7 each hold nothing (at first)");
    for (int d = 0; d < 8; d++) {
      due("tax", -11, x.tax(d));
      due("judge", -11, x.judge(d));
    }
    for (int d = 0; d < 8; d++) {
      due("row", 0, x.row(d, 2, 1));
      due("put", 0, x.put(d, 0, d + 70));
    }
    for (int d = 0; d < 8; d++) {
      due("each its own", d + 70, x.element(d, 0));
    }
  }

  private static void shelvesThatThereAreNot() {
    NumberedByAge x = begin("SHELVES 0 .. 7 each hold nothing (at first)");
    fill(x, 0, 1, 1);
    for (int d : new int[] {-1, 8, LEAST, MOST}) {
      due("street", -1, x.street(d));
      due("enact", -1, x.enact(d));
      due("walk", -1, x.walk(d, 0));
      due("search", -1, x.search(d, 0));
      due("joined", -1, x.joined(d, 0));
      due("judge", -1, x.judge(d));
      due("keep", -1, x.keep(d, 0, 0, 0));
      due("keep", -1, x.keep(d, 1, 0, 0));
      due("row", -1, x.row(d, 0, 0));
      due("put", -1, x.put(d, 0, 0));
      due("element", 1, thrown(x, d, 0));
      due("copy", -1, x.copy(d, 0, 0, 0, 0));
      due("copy", -1, x.copy(0, 0, d, 0, 0));
      due("tax", -1, x.tax(d));
      due("toss", -1, x.toss(d));
    }
  }

  private static void elementsAtFirst() {
    NumberedByAge x = begin("0 .. 100 elements, 0 at first");
    due("row of none", 0, x.row(0, 0, 0));
    due("element", 2, thrown(x, 0, 0));
    due("row of 100", 0, x.row(0, 0, 100));
    for (int i = 0; i < 100; i++) {
      due("element", 0, x.element(0, i));
    }
    due("element", 2, thrown(x, 0, 100));
    due("row of 101", -1, x.row(0, 0, 101));
    due("row", -1, x.row(0, 0, MOST));
    for (int i = 0; i < 100; i++) {
      x.put(0, i, 1);
    }
    due("row made anew", 0, x.row(0, 2, 100));
    for (int i = 0; i < 100; i++) {
      due("element", 0, x.element(0, i));
    }
  }

  private static void sortsOfRows() {
    NumberedByAge x = begin("a SORT (0 bytes, 1 shorts, 2 ints)");
    for (int sort = 0; sort <= 2; sort++) {
      due("row", 0, x.row(0, sort, 1));
    }
    for (int sort : new int[] {-1, 3, LEAST, MOST}) {
      due("row", -1, x.row(0, sort, 1));
    }
  }

  private static void lowestBits() {
    NumberedByAge x = begin("what is put in keeps its lowest bits");
    int[][] kept = {
      {0, 127, 127}, {0, 128, -128}, {0, -128, -128}, {0, -129, 127}, {0, 255, -1}, {0, 256, 0}, {0, 257, 1},
      {0, MOST, -1}, {0, LEAST, 0}, {0, LEAST + 127, 127}, {0, 32767, -1},
      {1, 32767, 32767}, {1, 32768, -32768}, {1, -32768, -32768}, {1, -32769, 32767}, {1, 65535, -1},
      {1, 65536, 0}, {1, 65537, 1}, {1, MOST, -1}, {1, LEAST, 0}, {1, 128, 128},
      {2, MOST, MOST}, {2, LEAST, LEAST}, {2, -1, -1}, {2, 65536, 65536}
    };
    for (int[] one : kept) {
      fill(x, 0, one[0], one[1]);
      due("SORT " + one[0] + " of " + one[1], one[2], x.element(0, 0));
    }
  }

  private static void nothingHeld() {
    NumberedByAge x = begin("-11 nothing is held where something is wanted");
    fill(x, 1, 1, 1);
    due("street", -11, x.street(0));
    due("enact", -11, x.enact(0));
    due("walk", -11, x.walk(0, 0));
    due("search", -11, x.search(0, 0));
    due("joined", -11, x.joined(0, 0));
    due("joined", -11, x.joined(0, 1));
    due("judge", -11, x.judge(0));
    due("put", -11, x.put(0, 0, 0));
    due("copy", -11, x.copy(0, 0, 1, 0, 0));
    due("copy", -11, x.copy(1, 0, 0, 0, 0));
    due("copy", -11, x.copy(0, 0, 0, 0, 0));
    due("tax", -11, x.tax(0));
    due("toss", -11, x.toss(0));
    due("element", 2, thrown(x, 0, 0));
    x.keep(1, 0, 0, 0);
    due("emptied", -11, x.judge(1));
    due("emptied", -11, x.tax(1));
  }

  private static void otherKind() {
    NumberedByAge x = begin("-12 it is of another kind");
    x.keep(0, 1, 0, 1);
    fill(x, 1, 0, 1);
    fill(x, 2, 1, 1);
    fill(x, 3, 2, 1);
    for (int d : new int[] {0, 2, 3}) {
      due("street of SHELF " + d, -12, x.street(d));
    }
    for (int d : new int[] {0, 1, 3}) {
      due("walk by SHELF " + d, -12, x.walk(d, 0));
      due("search by SHELF " + d, -12, x.search(d, 0));
      due("joined by SHELF " + d, -12, x.joined(d, 0));
    }
    for (int d = 1; d <= 3; d++) {
      due("enact", -12, x.enact(d));
      due("tax", -12, x.tax(d));
      due("toss", -12, x.toss(d));
      due("copy of a LAW", -12, x.copy(0, 0, d, 0, 0));
      due("copy to a LAW", -12, x.copy(d, 0, 0, 0, 0));
      due("copy to another SORT", -12, x.copy(d, 0, d % 3 + 1, 0, 0));
    }
    due("judge", -12, x.judge(0));
    due("put", -12, x.put(0, 0, 0));
    due("copy", -12, x.copy(0, 0, 0, 0, 0));
    due("element", 2, thrown(x, 0, 0));
  }

  private static void placesThatAreNotThere() {
    NumberedByAge x = begin("-13 a place that isn't there (a number or a size that isn't as told, too)");
    fill(x, 0, 2, 7, 8);
    for (int i : new int[] {-1, 2, 100, LEAST, MOST}) {
      due("put", -13, x.put(0, i, 1));
      due("copy", -13, x.copy(0, i, 0, 0, 1));
      due("copy", -13, x.copy(0, 0, 0, i, 1));
      due("element", 2, thrown(x, 0, i));
    }
    fill(x, 1, 1);
    due("joined, a size", -13, x.joined(1, 0));
    fill(x, 1, 1, 0);
    due("joined, a number", -13, x.joined(1, 0));
    due("copy, a number", -13, x.copy(0, 0, 0, 0, -1));
    due("element", 7, x.element(0, 0));
    due("element", 8, x.element(0, 1));
  }

  private static void sizesBelow0() {
    NumberedByAge x = begin("-14 a size below 0");
    fill(x, 0, 2, 7);
    due("row", -14, x.row(0, 2, -1));
    due("row", -14, x.row(0, 0, LEAST));
    due("it is as it was", 7, x.element(0, 0));
    due("row of none is none below 0", 0, x.row(0, 2, 0));
  }

  private static void failuresThatAreNone() {
    NumberedByAge x = begin("-15 a FAILURE that is none");
    for (int kind = 0; kind < 8; kind++) {
      x.keep(0, 1, kind, 0);
      due("toss of KIND " + kind, -15, x.toss(0));
    }
    for (int figure = 1; figure <= 9; figure++) {
      x.keep(0, 1, 4, figure);
      due("toss of TWICE", -15, x.toss(0));
    }
  }

  // ---- 2: a STREET read from bytes

  private static void streetsAsTexts() {
    statementsOfEachLetter();
    atLeastOneStatement();
    firstByteOfEachPlace();
    endsTooEarly();
    lettersThatAreNone();
    numbersOutOfRange();
    aHouseThere();
    noneThere();
    noRoomForAnEvent();
    withoutFaultAllOfIt();
    withOneNothing();
    longestTexts();
  }

  private static void statementsOfEachLetter() {
    NumberedByAge x = begin("STATEMENTS, each with ; behind: b, a PLOT (2 digits), HEIGHT (a digit): a house is built");
    due("street", 1, read(x, "b119;"));
    due("NUMBER", 1, x.house(11, 0));
    due("HEIGHT", 9, x.house(11, 1));
    sentence = "f, a PLOT (2 digits): the house there burns down";
    due("street", 1, read(x, "f11;"));
    dueCounts(x, 0, 2, 1, 0);
    sentence = "l, KIND, FIGURE (digits): that LAW is in force from now on";
    due("street", 4, read(x, "b001;l79;b011;l00;"));
    dueNumbers(x, 2, 4);
    dueCounts(x, 2, 4, 3, 4, 0, 0);
  }

  private static void atLeastOneStatement() {
    begin("At least one STATEMENT.");
    dueOfText("", -1000);
    dueOfText("l00;", 1);
  }

  /** At each place of a text each byte that is none there. */
  private static void firstByteOfEachPlace() {
    begin("FAULT: kind 1 the place of the first byte with which no STREET can go on");
    String text = "b001;f00;l10;";
    for (int place = 0; place < text.length(); place++) {
      char whole = text.charAt(place);
      String can = whole == ';' ? ";" : whole >= 'a' ? "bfl" : "0123456789";
      bytesThatAreNone(text, place, can, -128);
      bytesThatAreNone(text, place, can, 0);
    }
    dueOfText("b001;b0011;", -1009);
    dueOfText("f001;", -1003);
    dueOfText("b00;", -1003);
    dueOfText("l1;0;", -1002);
    dueOfText("l100;", -1003);
  }

  private static void bytesThatAreNone(String text, int place, String can, int from) {
    NumberedByAge x = new NumberedByAge();
    due("street", 3, read(x, text));
    for (int one = from; one < from + 128; one++) {
      if (one < 0 || can.indexOf((char) one) < 0) {
        x.put(6, place, one);
        due("byte " + one + " at place " + place, -1000 - place, x.street(6));
      }
    }
    dueCounts(x, 0, 2, 1, 0, 1, 0);
  }

  private static void endsTooEarly() {
    begin("(the size, if it ends too early)");
    String text = "b001;f00;l10;";
    for (int size = 0; size < text.length(); size++) {
      boolean whole = size > 0 && text.charAt(size - 1) == ';';
      dueOfText(text.substring(0, size), whole ? text.substring(0, size).split(";").length : -1000 - size);
    }
  }

  private static void lettersThatAreNone() {
    begin("FAULT: kind 1 the place of the first byte with which no STREET can go on");
    for (String text : new String[] {"B001;", "F00;", "L00;", "a001;", "c001;", "e00;", "g00;", "k00;", "m00;", "0", " "}) {
      dueOfText(text, -1000);
      dueOfText("b001;" + text, -1005);
    }
    dueOfText("b001;;", -1005);
  }

  private static void numbersOutOfRange() {
    begin("that isn't as told (a number out of range");
    dueOfText("b111;b001;f11;l79;", 4);
    dueOfText("b001;b121;", -2005);
    dueOfText("b001;b201;", -2005);
    dueOfText("b001;b010;", -2005);
    dueOfText("b001;f12;", -2005);
    dueOfText("b001;f99;", -2005);
    dueOfText("b001;l80;", -2005);
    dueOfText("b001;l99;", -2005);
    dueOfText("b120;", -2000);
  }

  private static void aHouseThere() {
    NumberedByAge x = begin("a house there");
    x.build(3, 1);
    due("from before", -2000, read(x, "b031;"));
    due("from the text", -2005, read(x, "b041;b041;"));
    due("burnt down in the text", 2, read(x, "f03;b031;"));
    due("NUMBER", 2, x.house(3, 0));
  }

  private static void noneThere() {
    NumberedByAge x = begin("none there");
    x.build(3, 1);
    due("none before", -2000, read(x, "f04;"));
    due("burnt down twice", -2004, read(x, "f03;f03;"));
    due("built in the text", 2, read(x, "b041;f04;"));
    dueCounts(x, 1, 3, 2, 1);
  }

  private static void noRoomForAnEvent() {
    NumberedByAge x = begin("no room for an EVENT): -1000 times the kind less the place.");
    x.build(0, 1);
    renew(x, 0, 14);
    due("EVENTS", 29, x.count(1));
    due("b", -2004, read(x, "f00;b001;"));
    due("f", -2005, read(x, "b011;f01;"));
    due("behind a LAW", -2009, read(x, "b011;l10;f01;"));
    due("the last EVENT", 3, read(x, "l10;b011;l20;"));
    due("b", -2000, read(x, "b021;"));
    due("f", -2004, read(x, "l30;f00;"));
    dueCounts(x, 2, 30, 16, 15, 2, 0);
  }

  private static void withoutFaultAllOfIt() {
    NumberedByAge x = begin("Without FAULT all of it comes");
    due("street", 8, read(x, "l20;b011;b051;l31;b092;f01;l45;b117;"));
    dueNumbers(x, 0, 0, 0, 0, 0, 1, 0, 0, 0, 5, 0, 8);
    dueCounts(x, 3, 5, 4, 8, 4, 5);
    due("HEIGHT", 7, x.house(11, 1));
    due("AGE", 3, x.house(5, 2));
    due("the EVENTS, too", 4, x.byLaw(11, 0, 0));
  }

  private static void withOneNothing() {
    String[] faults = {"b011;", "f03;", "l80;", "x", "b02", "f01;b0x"};
    int[] dues = {-2017, -2017, -2017, -1017, -1020, -1023};
    for (int i = 0; i < faults.length; i++) {
      NumberedByAge x = begin("with one nothing");
      due("street", 2, read(x, "b014;l15;"));
      due("street with '" + faults[i] + "'", dues[i], read(x, "f01;l22;b011;l10;" + faults[i]));
      dueCounts(x, 1, 1, 1, 1, 1, 5);
      due("NUMBER", 1, x.house(1, 0));
      due("HEIGHT", 4, x.house(1, 1));
      due("AGE", 0, x.house(1, 2));
      due("EVENTS", 2, x.byLaw(1, 4, 0));
      due("would by GAP", 2, x.would(2, 1));
      inForce(x, 2, 0);
      due("built in the QUARTER", 2, x.would(2, 1));
    }
  }

  private static void longestTexts() {
    begin("(the size, if it ends too early)");
    String laws = "l10;".repeat(24);
    dueOfText(laws + "l77;", 25);
    dueOfText(laws + "l777", -1099);
    dueOfText(laws + "b001", -1100);
    dueOfText(laws + "l80;", -2096);
    dueOfText(laws + "f00;", -2096);
    StringBuilder houses = new StringBuilder();
    for (int plot = 0; plot < 12; plot++) {
      houses.append('b').append(plot / 10).append(plot % 10).append("1;");
    }
    dueOfText(houses + "f00;b001;f00;b001;f00;b001;f00;b001;", 20);
    dueOfText(houses + "f00;b001;f00;b001;f00;b001;f00;b00;", -1000 - 94);
    dueOfText(houses + "f00;b001;f00;b001;f00;b001;f00;f00;", -2000 - 91);
  }

  // ---- 3: numbers

  private static void numbers() {
    havesOfNoneAndAll();
    wouldsOnAnyPlot();
    wheresOfNoneAndAll();
    letters();
    lettersOfNone();
    gapsOfNone();
    gapsToTheGreatest();
  }

  private static void havesOfNoneAndAll() {
    NumberedByAge x = begin("HAVE: PLOTS (bits) whose houses have a NUMBER.");
    due("no house", 0, x.have(1));
    due("no house", 0, x.have(MOST));
    inForce(x, 3, 1);
    for (int plot = 11; plot >= 3; plot--) {
      dueBuilt(x, plot, plot - 2, 10);
    }
    inForce(x, 0, 0);
    dueBuilt(x, 0, 1, 10);
    dueBuilt(x, 1, 1, 11);
    due("ten of them", 0xFF9, x.have(10));
    due("one of them", 2, x.have(11));
    due("none", 0, x.have(9));
    due("none", 0, x.have(12));
    x.burn(11);
    due("not one that burnt down", 0x7F9, x.have(10));
    due("1 at least", -1, x.have(0));
    due("1 at least", -1, x.have(-1));
    due("1 at least", -1, x.have(LEAST));
  }

  private static void wouldsOnAnyPlot() {
    NumberedByAge x = under("WOULD: the NUMBER that a house of a HEIGHT built now on a PLOT would get.", 7, 0);
    buildRow(x, 12);
    due("on one with a house", 9, x.would(0, 1));
    due("on one with a house", 10, x.would(11, 1));
    dueCounts(x, 12, 12, 12, 8);
    renew(x, 0, 9);
    due("with no room for an EVENT", 28, x.would(1, 1));
    x.burn(5);
    due("EVENTS", 30, x.count(1));
  }

  private static void wheresOfNoneAndAll() {
    NumberedByAge x = begin("WHERE: PLOTS (bits) without house on which one of a HEIGHT built now would get a NUMBER.");
    due("all", 0xFFF, x.where(1, 1));
    due("none", 0, x.where(2, 1));
    due("none", 0, x.where(MOST, 9));
    buildRow(x, 11);
    due("the last", 0x800, x.where(12, 1));
    x.build(11, 1);
    due("no PLOT without house", 0, x.where(13, 1));
    x.burn(0);
    due("the first", 1, x.where(13, 1));
    renew(x, 1, 8);
    x.burn(11);
    due("EVENTS", 30, x.count(1));
    due("with no room for an EVENT", 0x801, x.where(21, 1));
    due("1 at least", -1, x.where(0, 1));
    due("1 at least", -1, x.where(-1, 1));
    due("1 at least", -1, x.where(LEAST, 1));
  }

  private static void letters() {
    NumberedByAge x = begin("LETTER n (1 .. 12): the PLOT of the house of which n less 1 others were built earlier");
    for (int plot = 11; plot >= 0; plot--) {
      x.build(plot, 1);
    }
    due("the first", 11, x.letter(1));
    due("the last", 0, x.letter(12));
    for (int n : new int[] {0, 13, -1, LEAST, MOST}) {
      due("letter", -1, x.letter(n));
    }
    x.burn(11);
    due("of those that are there now", 10, x.letter(1));
    x.build(11, 1);
    due("built anew it is the last", 11, x.letter(12));
    due("the first", 10, x.letter(1));
  }

  private static void lettersOfNone() {
    NumberedByAge x = begin("of those that are there now; -4.");
    due("no house", -4, x.letter(1));
    due("no house", -4, x.letter(12));
    x.build(4, 1);
    due("one", 4, x.letter(1));
    due("one", -4, x.letter(2));
    buildRow(x, 11);
    due("eleven", 10, x.letter(11));
    due("eleven", -4, x.letter(12));
    x.burn(4);
    due("ten", -4, x.letter(11));
  }

  private static void gapsOfNone() {
    NumberedByAge x = begin("GAPS: how many numbers there are from 1 to the greatest that a house has that none has.");
    due("no house", 0, x.gaps());
    x.build(0, 1);
    due("1 alone", 0, x.gaps());
    buildRow(x, 12);
    due("1 to 12", 0, x.gaps());
    x.burn(11);
    due("the greatest is no gap", 0, x.gaps());
    x.burn(0);
    due("1 is one", 1, x.gaps());
    for (int plot = 1; plot < 11; plot++) {
      x.burn(plot);
    }
    due("no house again", 0, x.gaps());
  }

  private static void gapsToTheGreatest() {
    NumberedByAge x = under("GAPS: how many numbers there are from 1 to the greatest that a house has that none has.", 4, 0);
    x.build(0, 1);
    due("2 alone", 1, x.gaps());
    buildRow(x, 12);
    due("2, 4, .. 24", 12, x.gaps());
    inForce(x, 3, 9);
    x.burn(0);
    dueBuilt(x, 0, 9, 94);
    due("4, 6, .. 24, 94", 94 - 12, x.gaps());
    inForce(x, 1, 0);
    x.burn(1);
    x.burn(2);
    x.build(1, 1);
    inForce(x, 2, 0);
    due("1, 8, 10, .. 24, 94", 94 - 11, x.gaps());
    dueBuilt(x, 2, 1, 7);
    due("7, too", 94 - 12, x.gaps());
    x.burn(2);
    dueBuilt(x, 2, 1, 8);
    due("8 twice", 94 - 11, x.gaps());
  }

  // ---- 3: walks

  /** NUMBERS 1 on PLOTS 2 and 9, 2 on PLOT 0, 3 on PLOT 11, 4 on PLOT 3. */
  private static NumberedByAge forWalks(String ofSentence) {
    NumberedByAge x = begin(ofSentence);
    due("street", 7, read(x, "l20;b021;b091;l60;b001;b111;b031;"));
    dueNumbers(x, 2, 0, 1, 4, 0, 0, 0, 0, 0, 1, 0, 3);
    return x;
  }

  private static void walks() {
    leastWays();
    whicheverOfSeveral();
    walksThatMeetNone();
    toTheNearerEnd();
    theFirstPlotToo();
    searchesThatMeetNone();
    risesOfEachGreater();
    fallsOfNeighbours();
  }

  private static void leastWays() {
    NumberedByAge x = forWalks("the least way (in PLOTS) on which one comes by a house of each");
    fill(x, 0, 1, 2, 3);
    int[] dues = {11, 12, 13, 14, 15, 16, 16, 15, 14, 13, 12, 11};
    for (int plot = 0; plot < 12; plot++) {
      due("both ends from " + plot, dues[plot], x.walk(0, plot));
    }
    fill(x, 0, 1, 2);
    due("it is here", 0, x.walk(0, 0));
    due("it is at the other end", 11, x.walk(0, 11));
    fill(x, 0, 1, 3);
    due("it is at the other end", 11, x.walk(0, 0));
    due("it is here", 0, x.walk(0, 11));
    fill(x, 0, 1);
    due("none told", 0, x.walk(0, 0));
    due("none told", 0, x.walk(0, 11));
    int[] hundred = new int[100];
    java.util.Arrays.fill(hundred, 4);
    hundred[99] = 2;
    fill(x, 0, 1, hundred);
    due("a hundred told", 4, x.walk(0, 4));
  }

  private static void whicheverOfSeveral() {
    NumberedByAge x = forWalks("(whichever, if several have it)");
    fill(x, 0, 1, 1);
    int[] dues = {2, 1, 0, 1, 2, 3, 3, 2, 1, 0, 1, 2};
    for (int plot = 0; plot < 12; plot++) {
      due("to the nearer one from " + plot, dues[plot], x.walk(0, plot));
    }
    fill(x, 0, 1, 1, 3);
    due("the one on the way", 8, x.walk(0, 3));
    fill(x, 0, 1, 1, 4);
    due("the one that is here", 6, x.walk(0, 9));
    due("the one behind", 1, x.walk(0, 3));
  }

  private static void walksThatMeetNone() {
    NumberedByAge x = forWalks("-4 there is none of one.");
    for (int none : new int[] {5, 0, -1, -32768, 32767}) {
      fill(x, 0, 1, none);
      due("of " + none, -4, x.walk(0, 0));
      fill(x, 0, 1, 1, none, 2);
      due("of " + none + ", of others there is one", -4, x.walk(0, 11));
    }
    x = begin("-4 there is none of one.");
    fill(x, 0, 1, 1);
    due("no house", -4, x.walk(0, 0));
    x.build(5, 1);
    due("one", 5, x.walk(0, 0));
    x.burn(5);
    due("burnt down", -4, x.walk(0, 5));
  }

  private static void toTheNearerEnd() {
    NumberedByAge x = forWalks("the nearer end of the street (PLOT 0 or 11), and then to the other one");
    fill(x, 0, 1, 2, 3);
    int[] ends = {11, 12, 13, 14, 15, 16, 16, 15, 14, 13, 12, 11};
    for (int plot = 0; plot < 12; plot++) {
      due("both ends from " + plot, ends[plot], x.search(0, plot));
    }
    fill(x, 0, 1, 4);
    int[] dues = {3, 4, 5, 0, 1, 2, 13, 12, 11, 10, 9, 8};
    for (int plot = 0; plot < 12; plot++) {
      due("PLOT 3 from " + plot, dues[plot], x.search(0, plot));
    }
  }

  private static void theFirstPlotToo() {
    NumberedByAge x = forWalks("till he has come by one of each (the first PLOT, too)");
    fill(x, 0, 1, 1);
    due("the first alone", 0, x.search(0, 2));
    due("the first alone", 0, x.search(0, 9));
    fill(x, 0, 1, 4, 1);
    due("the first and the next", 1, x.search(0, 3));
    fill(x, 0, 1, 1, 3);
    due("the first and the end", 2, x.search(0, 9));
    fill(x, 0, 1, 3);
    due("at the end", 0, x.search(0, 11));
    due("the farthest", 16, x.search(0, 5));
    fill(x, 0, 1);
    due("none told", 0, x.search(0, 5));
  }

  private static void searchesThatMeetNone() {
    NumberedByAge x = forWalks("how far he went (-4 likewise)");
    for (int none : new int[] {5, 0, -1, -32768, 32767}) {
      fill(x, 0, 1, none);
      due("of " + none, -4, x.search(0, 0));
      fill(x, 0, 1, 1, none, 2);
      due("of " + none + ", of others there is one", -4, x.search(0, 11));
    }
    x = begin("how far he went (-4 likewise)");
    fill(x, 0, 1, 1);
    due("no house", -4, x.search(0, 0));
  }

  private static void risesOfEachGreater() {
    NumberedByAge x = begin("(each greater than the one ahead)");
    due("no house", 0, x.rise());
    x.build(0, 1);
    due("one", 1, x.rise());
    inForce(x, 2, 0);
    x.build(4, 1);
    due("1, 1", 1, x.rise());
    x.build(8, 1);
    due("1, 1, 1", 1, x.rise());
    x.build(11, 1);
    due("1, 1, 1, 2", 2, x.rise());
    x = begin("(each greater than the one ahead)");
    buildRow(x, 12);
    due("all", 12, x.rise());
    x = begin("(each greater than the one ahead)");
    for (int plot = 11; plot >= 0; plot--) {
      x.build(plot, 1);
    }
    due("only one", 1, x.rise());
    x = begin("the most houses, others left out, whose NUMBERS rise from PLOT 0 on");
    for (int plot : new int[] {2, 3, 0, 5, 7, 1, 11}) {
      x.build(plot, 1);
    }
    dueNumbers(x, 3, 6, 1, 2, 0, 4, 0, 5, 0, 0, 0, 7);
    due("1, 2, 4, 5, 7", 5, x.rise());
  }

  private static void fallsOfNeighbours() {
    NumberedByAge x = begin("neighbouring houses (with no house between them) there are of which the second has no greater NUMBER");
    due("no house", 0, x.falls());
    x.build(11, 1);
    due("one", 0, x.falls());
    x.build(0, 1);
    due("2, 1 far from one another", 1, x.falls());
    x.build(5, 1);
    due("2, 3, 1", 1, x.falls());
    x.burn(5);
    due("2, 1 over one that burnt down", 1, x.falls());
    x.burn(11);
    inForce(x, 2, 0);
    x.build(5, 1);
    x.build(9, 1);
    due("2, 2, 2: no greater", 2, x.falls());
    x = begin("neighbouring houses (with no house between them) there are of which the second has no greater NUMBER");
    for (int plot = 11; plot >= 0; plot--) {
      x.build(plot, 1);
    }
    due("the most", 11, x.falls());
    x = begin("neighbouring houses (with no house between them) there are of which the second has no greater NUMBER");
    buildRow(x, 12);
    due("the fewest", 0, x.falls());
  }

  // ---- 3: laws, orders, towns

  private static void lawsOrdersTowns() {
    byLawOfAllEvents();
    lawsOfNoHouse();
    lawsOfJustTheNumbers();
    ordersOfSevenHouses();
    firstOfOrders();
    townsOf20();
    howManyHereToo();
    newOnes();
  }

  private static void byLawOfAllEvents() {
    NumberedByAge x = begin("BY LAW: the NUMBER that the house of a PLOT had, if all EVENTS had gone by a KIND and FIGURE.");
    buildRow(x, 11);
    renew(x, 0, 9);
    dueBuilt(x, 11, 9, 21);
    due("LAW of 30 EVENTS", 21, x.byLaw(11, 0, 0));
    due("GAP", 12, x.byLaw(11, 1, 0));
    due("QUARTER", 4, x.byLaw(11, 2, 0));
    due("HIGH", 21 + 81, x.byLaw(11, 3, 9));
    due("TWICE", 42, x.byLaw(11, 4, 0));
    due("SKIP", 41, x.byLaw(11, 5, 2));
    due("LAST", 12, x.byLaw(11, 6, 9));
    due("LAST: PLOT 0 has 12 each time", 13, x.byLaw(11, 6, 0));
    due("SIDE", 8, x.byLaw(11, 7, 0));
    due("QUARTER with those that burnt down", 13, x.byLaw(0, 2, 0));
    dueNumbers(x, 20, 2, 3, 4, 5, 6, 7, 8, 9, 10, 11, 21);
    dueCounts(x, 12, 30, 21, 21, 0, 0);
  }

  private static void lawsOfNoHouse() {
    NumberedByAge x = begin("LAWS: KINDS (bits; FIGURE told) by which all houses that there are now");
    due("no house, no EVENT", 255, x.laws(0));
    due("no house, no EVENT", 255, x.laws(9));
    x.build(0, 1);
    x.burn(0);
    due("no house, two EVENTS", 255, x.laws(9));
  }

  private static void lawsOfJustTheNumbers() {
    NumberedByAge x = begin("had just the NUMBERS they have, if all EVENTS had gone by it");
    x.build(0, 9);
    due("1: by all but TWICE", 0b11101111, x.laws(0));
    due("1: nor by HIGH", 0b11100111, x.laws(1));
    inForce(x, 4, 0);
    x.build(1, 1);
    due("1, 4: SKIP by 2 has 1, 3; SIDE 1, 4", 0b10000000, x.laws(2));
    x.burn(1);
    due("4 is no matter then", 0b11100111, x.laws(2));
    x.burn(0);
    x.build(0, 1);
    due("6: by TWICE alone of three", 0b00010000, x.laws(2));
  }

  private static void ordersOfSevenHouses() {
    NumberedByAge x = begin("in how many orders the houses that there are now (7 at most, else -2)");
    due("no house", 1, x.orders(0));
    buildRow(x, 7);
    due("seven", 1, x.orders(0));
    due("seven", 0, x.orders(1));
    x.build(7, 1);
    due("eight", -2, x.orders(0));
    due("eight", -2, x.orders(1));
    x.burn(7);
    due("seven again", 1, x.orders(0));
    buildRow(x, 12);
    due("twelve", -2, x.orders(0));
    x = under("in how many orders the houses that there are now (7 at most, else -2)", 2, 0);
    for (int plot : new int[] {8, 4, 0, 9, 5, 1, 10}) {
      x.build(plot, 1);
    }
    due("7 of 3, 2, 2", 210, x.orders(0));
    due("the least PLOT", 0, x.orders(1));
  }

  private static void firstOfOrders() {
    NumberedByAge x = begin("the first (PLOTS one behind the other by numbers): the PLOT that was built first (-4)");
    due("no house", -4, x.orders(1));
    x.build(11, 1);
    due("one", 11, x.orders(1));
    x.build(0, 1);
    due("not the least PLOT", 11, x.orders(1));
    x.burn(11);
    due("2 alone", 0, x.orders(0));
    due("no order", -4, x.orders(1));
    x = begin("the first (PLOTS one behind the other by numbers): the PLOT that was built first (-4)");
    buildRow(x, 4);
    x.burn(2);
    due("1, 2, 4: the last one does not come", 0, x.orders(0));
    due("no order", -4, x.orders(1));
    x = under("the first (PLOTS one behind the other by numbers): the PLOT that was built first (-4)", 2, 0);
    x.build(11, 1);
    x.build(7, 1);
    x.build(3, 1);
    due("any order", 6, x.orders(0));
    due("the least PLOT", 3, x.orders(1));
  }

  private static void townsOf20() {
    NumberedByAge x = begin("another town's NUMBERS (1 .. 20 of them)");
    x.build(0, 1);
    int[] twenty = new int[20];
    java.util.Arrays.fill(twenty, 1);
    fill(x, 0, 1, twenty);
    due("20", 20, x.joined(0, 0));
    due("20", 1, x.joined(0, 1));
    fill(x, 0, 1, 1);
    due("1", 1, x.joined(0, 0));
    due("1", 1, x.joined(0, 1));
    int[] more = new int[21];
    java.util.Arrays.fill(more, 1);
    for (int[] town : new int[][] {{}, more, {0}, {-1}, {1, 2, 0}, {1, -32768}, {32768}, new int[100]}) {
      fill(x, 0, 1, town);
      due("joined by " + town.length, -13, x.joined(0, 0));
      due("joined by " + town.length, -13, x.joined(0, 1));
    }
  }

  private static void howManyHereToo() {
    NumberedByAge x = begin("how many of them a house here has, too");
    fill(x, 0, 1, 1, 2, 32767);
    due("no house", 0, x.joined(0, 0));
    x.build(0, 1);
    due("1", 1, x.joined(0, 0));
    x.build(11, 1);
    due("1, 2", 2, x.joined(0, 0));
    x.burn(0);
    due("not one that burnt down", 1, x.joined(0, 0));
    fill(x, 0, 1, 2, 2, 3);
    due("told twice", 2, x.joined(0, 0));
    inForce(x, 2, 0);
    due("QUARTER", 2, x.build(1, 1));
    fill(x, 0, 1, 2);
    due("two houses have it", 1, x.joined(0, 0));
  }

  private static void newOnes() {
    NumberedByAge x = begin("the least number (0 at least) by which all of them would have to be raised");
    fill(x, 0, 1, 1, 2);
    due("no house", 0, x.joined(0, 1));
    buildRow(x, 12);
    due("behind the last", 12, x.joined(0, 1));
    fill(x, 0, 1, 12);
    due("the last", 1, x.joined(0, 1));
    fill(x, 0, 1, 13);
    due("none has it", 0, x.joined(0, 1));
    fill(x, 0, 1, 1, 32767);
    due("beside the greatest short", 12, x.joined(0, 1));
    x.burn(4);
    x.burn(7);
    fill(x, 0, 1, 1, 4);
    due("1, 4 to 5, 8", 4, x.joined(0, 1));
    fill(x, 0, 1, 1, 3);
    due("1, 3 to 13, 15, for 3, 5 and 5, 7 and 6, 8 and 8, 10 don't do", 12, x.joined(0, 1));
    fill(x, 0, 1, 5, 8);
    due("they are new", 0, x.joined(0, 1));
  }

  // ---- 3: seeds, JUDGED, THE IMAGE

  private static void seedsJudgedImage() {
    timesOfSeeds();
    inMindInAnEmptyStreet();
    plotsAndHeightsDrawn();
    aHouseThereBurnsDown();
    drawsRunOver();
    judgedSizes();
    judgedSkipsTheLeast();
    judgedFirstThatIsNotSo();
    allThatThereIsButShelves();
    imageOfAFullStreet();
  }

  private static void timesOfSeeds() {
    NumberedByAge x = begin("SEEDED: n times (1 .. 30) with a seed z");
    due("once", 1, x.seeded(1, 0, 1));
    due("29 times", 10, x.seeded(29, 0, 0));
    due("29 times", 4, x.seeded(29, 0, 1));
    due("30 times", 10, x.seeded(30, 0, 0));
    due("30 times", 5, x.seeded(30, 0, 1));
    for (int n : new int[] {0, 31, -1, LEAST, MOST}) {
      due("seeded", -1, x.seeded(n, 0, 0));
      due("seeded", -1, x.seeded(n, 0, 1));
    }
  }

  private static void inMindInAnEmptyStreet() {
    NumberedByAge x = begin("in mind, in an empty street by the LAW in force");
    buildRow(x, 12);
    renew(x, 0, 9);
    due("30 times, whatever EVENTS there are", 10, x.seeded(30, 0, 0));
    due("30 times, whatever EVENTS there are", 5, x.seeded(30, 0, 1));
    dueCounts(x, 12, 30, 21, 21, 0, 0);
    // By each KIND with FIGURE 9: GAPS and RISE of 30 times with seed -1.
    int[] gaps = {11, 0, 1, 88, 30, 13, 0, 7};
    int[] rises = {3, 4, 3, 4, 3, 3, 4, 3};
    for (int kind = 0; kind < 8; kind++) {
      inForce(x, kind, 9);
      due("GAPS by KIND " + kind, gaps[kind], x.seeded(30, -1, 0));
      due("RISE by KIND " + kind, rises[kind], x.seeded(30, -1, 1));
    }
    due("still here", 21, x.house(0, 0));
  }

  private static void plotsAndHeightsDrawn() {
    // By HIGH 9 of one house with HEIGHT h GAPS are 9 times h; by SIDE on an odd PLOT they are 1.
    NumberedByAge x = under("a PLOT (a DRAW below 12) and a HEIGHT (a DRAW below 9, and 1)", 3, 9);
    due("HEIGHT 1 of seed 6", 9, x.seeded(1, 6, 0));
    due("HEIGHT 9 of seed 8", 81, x.seeded(1, 8, 0));
    due("HEIGHT 4 of seed 0", 36, x.seeded(1, 0, 0));
    inForce(x, 7, 0);
    due("PLOT 11 of seed 3", 1, x.seeded(1, 3, 0));
    due("PLOT 0 of seed 9", 0, x.seeded(1, 9, 0));
    due("PLOT 5 of seed -1", 1, x.seeded(1, -1, 0));
  }

  private static void aHouseThereBurnsDown() {
    NumberedByAge x = under("built, or, if there is a house, burnt down: GAPS then; RISE then", 4, 0);
    due("PLOT 6 of seed 13", 1, x.seeded(1, 13, 0));
    due("PLOT 6 of seed 13", 1, x.seeded(1, 13, 1));
    due("PLOT 6 twice", 0, x.seeded(2, 13, 0));
    due("PLOT 6 twice", 0, x.seeded(2, 13, 1));
  }

  private static void drawsRunOver() {
    NumberedByAge x = under("DRAWS: z becomes z times 1103515245 plus 12345 (an int)", 3, 9);
    due("the greatest seed: PLOT 5, HEIGHT 9; PLOT 10, HEIGHT 7", 81, x.seeded(1, MOST, 0));
    due("the greatest seed", 80, x.seeded(2, MOST, 0));
    due("the greatest seed", 88, x.seeded(30, MOST, 0));
    due("the least seed", 36, x.seeded(1, LEAST, 0));
    due("the least seed", 45, x.seeded(2, LEAST, 0));
    due("the least seed", 87, x.seeded(30, LEAST, 0));
    sentence = "(z without its sign's bit over 65536, cut) modulo n";
    due("below 0 as without the sign's bit", 81, x.seeded(1, -1, 0));
    due("below 0 as without the sign's bit", 4, x.seeded(30, -1, 1));
    due("below 0 as without the sign's bit", 4, x.seeded(30, MOST, 1));
  }

  private static void judgedSizes() {
    NumberedByAge x = begin("the size, if it is short; 12, if it is long; -4");
    due("row of 0", 0, x.row(0, 0, 0));
    due("of 0", 0, x.judge(0));
    for (int size = 1; size <= 15; size++) {
      x.row(0, size % 3, size);
      due("of " + size, size < 12 ? size : size == 12 ? -4 : 12, x.judge(0));
    }
    x.row(0, 2, 100);
    due("of 100", 12, x.judge(0));
    x.build(11, 1);
    x.row(0, 2, 11);
    due("a house behind a short one", 11, x.judge(0));
    x.row(0, 2, 12);
    due("a house at the last place", 11, x.judge(0));
    x.put(0, 11, 1);
    due("all so", -4, x.judge(0));
  }

  private static void judgedSkipsTheLeast() {
    NumberedByAge x = begin("the first that isn't so (the least number of the SORT is skipped)");
    x.build(0, 1);
    int[] least = {-128, -32768, LEAST};
    for (int sort = 0; sort <= 2; sort++) {
      x.row(0, sort, 12);
      x.put(0, 0, least[sort]);
      due("the least of SORT " + sort, -4, x.judge(0));
      x.put(0, 5, least[sort]);
      due("of no house, too", -4, x.judge(0));
      x.put(0, 0, least[sort] + 1);
      due("one more than the least", 0, x.judge(0));
      x.put(0, 0, 1);
      x.put(0, 11, least[sort] + 1);
      due("one more than the least", 11, x.judge(0));
    }
    x.row(0, 1, 12);
    x.put(0, 0, -128);
    due("the least byte among shorts", 0, x.judge(0));
    x.row(0, 2, 12);
    x.put(0, 0, -32768);
    due("the least short among ints", 0, x.judge(0));
    x.row(0, 0, 3);
    for (int i = 0; i < 3; i++) {
      x.put(0, i, -128);
    }
    due("all skipped, and short", 3, x.judge(0));
    x.row(0, 0, 13);
    x.put(0, 0, -128);
    due("skipped, and long", 12, x.judge(0));
    x.put(0, 12, -128);
    due("skipped, and long by a skipped one", 12, x.judge(0));
  }

  private static void judgedFirstThatIsNotSo() {
    NumberedByAge x = begin("JUDGED: a ROW: NUMBERS of PLOTS 0, 1, .. (0: no house)");
    x.build(0, 1);
    x.build(11, 1);
    fill(x, 0, 2, 1, 0, 0, 0, 0, 0, 0, 0, 0, 0, 0, 2);
    due("all so", -4, x.judge(0));
    x.put(0, 0, 0);
    due("0 where a house is", 0, x.judge(0));
    x.put(0, 0, 257);
    due("not its lowest byte alone", 0, x.judge(0));
    x.put(0, 0, 1);
    x.put(0, 10, 1);
    x.put(0, 11, 3);
    due("a NUMBER where no house is, the first of two", 10, x.judge(0));
    x.burn(11);
    x.put(0, 10, 0);
    due("one that burnt down", 11, x.judge(0));
    fill(x, 0, 0, 2);
    due("not so goes ahead of short", 0, x.judge(0));
    x.row(0, 1, 100);
    due("not so goes ahead of long", 0, x.judge(0));
  }

  private static void allThatThereIsButShelves() {
    NumberedByAge x = begin("THE IMAGE: all that there is, but SHELVES (and THE IMAGE); RESTORED all is as it was then.");
    due("none taken", -3, x.restore());
    due("street", 7, read(x, "l27;b013;b024;b085;f02;l39;b099;"));
    dueNumbers(x, 0, 1, 0, 0, 0, 0, 0, 0, 1, 85, 0, 0);
    due("image", 5, x.image());
    due("street", 5, read(x, "f01;f08;f09;l60;b112;"));
    x.keep(0, 1, 5, 5);
    due("restore", 5, x.restore());
    dueNumbers(x, 0, 1, 0, 0, 0, 0, 0, 0, 1, 85, 0, 0);
    dueCounts(x, 3, 5, 4, 85, 3, 9);
    due("HEIGHT", 3, x.house(1, 1));
    due("AGE", 4, x.house(1, 2));
    due("EVENTS", 6, x.byLaw(8, 4, 0));
    due("SHELVES stay", 7, x.tax(0));
    due("SHELVES stay", 'f', x.element(6, 0));
    x.burn(1);
    due("THE IMAGE stays", 5, x.restore());
    due("NUMBER", 1, x.house(1, 0));
    inForce(x, 2, 0);
    due("built in the QUARTER", 3, x.would(3, 1));
    due("KIND that was not in THE IMAGE", 2, x.count(4));
    due("restore", 5, x.restore());
    due("KIND that was", 3, x.count(4));
  }

  private static void imageOfAFullStreet() {
    NumberedByAge x = begin("THE IMAGE: all that there is, but SHELVES (and THE IMAGE); RESTORED all is as it was then.");
    due("image of no EVENT", 0, x.image());
    buildRow(x, 12);
    renew(x, 3, 9);
    due("restore", 0, x.restore());
    dueCounts(x, 0, 0, 0, 0, 0, 0);
    due("no house: by all", 255, x.laws(0));
    buildRow(x, 12);
    renew(x, 3, 9);
    due("image of 30", 30, x.image());
    due("no room", -2, x.burn(0));
    due("restore", 30, x.restore());
    due("still no room", -2, x.burn(0));
    due("NUMBER", 21, x.house(3, 0));
  }

  // ---- said once more, and behind

  private static void saidOnceMore() {
    kind1GoesAhead();
    eachOnWhatThoseAheadMade();
    rowsStayWhenRead();
    lawsStayWhenTaken();
  }

  private static void kind1GoesAhead() {
    begin("kind 1 (of any place) goes ahead of kind 2");
    dueOfText("b991;x", -1005);
    dueOfText("f00;b001", -1008);
    dueOfText("f00;b001;b001;l", -1015);
    dueOfText("f00;" + "l10;".repeat(23) + "l10x", -1099);
    dueOfText("f00;" + "l10;".repeat(23) + "l10;", -2000);
  }

  private static void eachOnWhatThoseAheadMade() {
    begin("STATEMENTS are tried one behind the other, each on what those ahead of it made");
    dueOfText("b001;b001;", -2005);
    dueOfText("b001;f00;f00;", -2009);
    dueOfText("b001;f00;b001;f00;", 4);
    dueOfText("b001;f01;", -2005);
    sentence = "and the first that can't be done so is told";
    dueOfText("b001;f01;b001;l80;", -2005);
    dueOfText("l80;f01;", -2000);
  }

  private static void rowsStayWhenRead() {
    NumberedByAge x = begin("The ROW that is read, and what is taken from a SHELF, stay there");
    due("street", 1, read(x, "b001;"));
    due("street again", -2000, x.street(6));
    for (int i = 0; i < 5; i++) {
      due("element", "b001;".charAt(i), x.element(6, i));
    }
    fill(x, 0, 1, 2, 1);
    due("walk", -4, x.walk(0, 0));
    due("search", -4, x.search(0, 0));
    due("joined", 1, x.joined(0, 0));
    due("joined", 1, x.joined(0, 1));
    due("judge", 0, x.judge(0));
    due("element", 2, x.element(0, 0));
    due("element", 1, x.element(0, 1));
    due("no third", 2, thrown(x, 0, 2));
  }

  private static void lawsStayWhenTaken() {
    NumberedByAge x = begin("The ROW that is read, and what is taken from a SHELF, stay there");
    x.keep(0, 1, 6, 9);
    due("enact", 0, x.enact(0));
    due("enact", 6, x.enact(0));
    due("tax", 24, x.tax(0));
    due("toss", 224, x.toss(0));
    due("toss", 224, x.toss(0));
    x.keep(0, 1, 1, 1);
    due("the one in force stays", 6, x.count(4));
    due("the one in force stays", 9, x.count(5));
    x.keep(0, 0, 0, 0);
    due("the one in force stays", 6, x.count(4));
  }
}
