/** What is due by each promise of ../shared/DOC.md, worked out by hand: ordinary inputs, edges, wrong inputs. */
public final class PromisesTest {
  private static final int LEAST = Integer.MIN_VALUE;
  private static final int MOST = Integer.MAX_VALUE;
  private static int wrong = 0;
  private static int promise = 0;

  public static void main(String[] args) {
    promise1NewObject();
    promise2Street();
    promise2StreetFaultsOfKind1();
    promise2StreetFaultsOfKind2();
    promise3Build();
    promise3NumbersByEachKind();
    promise4Burn();
    promise5Enact();
    promise6House();
    promise7Have();
    promise8Would();
    promise9Where();
    promise10Letter();
    promise11Gaps();
    promise12Walk();
    promise13Search();
    promise14Rise();
    promise15Falls();
    promise16ByLaw();
    promise17Laws();
    promise18Orders();
    promise19Joined();
    promise20Seeded();
    promise21Judge();
    promises22And23Image();
    promise24Count();
    promise25Keep();
    promise26Row();
    promise27Put();
    promise28Element();
    promise29Copy();
    promise30Tax();
    promise31Toss();
    System.out.println(wrong == 0 ? "all answers are as due" : wrong + " answers are not as due");
    if (wrong != 0) {
      System.exit(1);
    }
  }

  // ---- what the tests are written with

  private static void due(String call, long want, long got) {
    if (got != want) {
      wrong++;
      System.out.println("promise " + promise + ": " + call + " answered " + got + ", due is " + want);
    }
  }

  private static NumberedByAge begin(int ofPromise) {
    promise = ofPromise;
    return new NumberedByAge();
  }

  /** A ROW of a SORT in a SHELF with all its elements. */
  private static void fill(NumberedByAge x, int d, int sort, int... values) {
    due("row", 0, x.row(d, sort, values.length));
    for (int i = 0; i < values.length; i++) {
      due("put", 0, x.put(d, i, values[i]));
    }
  }

  private static void fillText(NumberedByAge x, int d, String text) {
    int[] bytes = new int[text.length()];
    for (int i = 0; i < bytes.length; i++) {
      bytes[i] = text.charAt(i);
    }
    fill(x, d, 0, bytes);
  }

  /** Reads a text by SHELF 6. */
  private static int read(NumberedByAge x, String text) {
    fillText(x, 6, text);
    return x.street(6);
  }

  /** Puts a LAW in force by SHELF 7. */
  private static void inForce(NumberedByAge x, int kind, int figure) {
    due("keep", 0, x.keep(7, 1, kind, figure));
    x.enact(7);
  }

  private static NumberedByAge under(int ofPromise, int kind, int figure) {
    NumberedByAge x = begin(ofPromise);
    inForce(x, kind, figure);
    return x;
  }

  private static void dueCounts(NumberedByAge x, int... wants) {
    for (int what = 0; what < wants.length; what++) {
      due("count(" + what + ")", wants[what], x.count(what));
    }
  }

  /** 0: there is an element; 1: IllegalArgumentException; 2: IllegalStateException. */
  private static int thrown(NumberedByAge x, int d, int i) {
    try {
      x.element(d, i);
      return 0;
    } catch (IllegalArgumentException e) {
      return 1;
    } catch (IllegalStateException e) {
      return 2;
    }
  }

  private static final String HUNDRED_BYTES = "l10;".repeat(25);

  // ---- streets

  private static void promise1NewObject() {
    NumberedByAge x = begin(1);
    dueCounts(x, 0, 0, 0, 0, 0, 0);
    for (int plot = 0; plot < 12; plot++) {
      due("house", -4, x.house(plot, 0));
    }
    for (int d = 0; d < 8; d++) {
      due("tax", -11, x.tax(d));
      due("judge", -11, x.judge(d));
    }
    due("restore", -3, x.restore());
    due("would", 1, x.would(11, 9));
  }

  private static void promise2Street() {
    NumberedByAge x = begin(2);
    due("street", 1, read(x, "b001;"));
    dueCounts(x, 1, 1, 1, 1, 0, 0);
    due("street goes on from what there is", 4, read(x, "f00;l25;b119;b004;"));
    dueCounts(x, 2, 4, 3, 2, 2, 5);
    due("house", 2, x.house(0, 0));
    due("house", 1, x.house(11, 0));
    due("house", 9, x.house(11, 1));
    due("the ROW stays", 'f', x.element(6, 0));
    due("street", 25, read(x, HUNDRED_BYTES));
    dueCounts(x, 2, 4, 3, 2, 1, 0);
    due("street", 1, read(x, "l79;"));
    dueCounts(x, 2, 4, 3, 2, 7, 9);
    due("street", -1, x.street(-1));
    due("street", -1, x.street(8));
    due("street", -11, x.street(0));
    x.keep(0, 1, 0, 0);
    due("street", -12, x.street(0));
    fill(x, 0, 1, 'b', '0', '1', '1', ';');
    due("street", -12, x.street(0));
    fill(x, 0, 2, 'b', '0', '1', '1', ';');
    due("street", -12, x.street(0));
    fill(x, 0, 0, 'b', '0' + 256, '1', '1', ';');
    due("street of the lowest bits", 1, x.street(0));
  }

  private static void promise2StreetFaultsOfKind1() {
    NumberedByAge x = begin(2);
    due("street", -1000, read(x, ""));
    due("street", -1000, read(x, ";"));
    due("street", -1000, read(x, "B001;"));
    due("street", -1001, read(x, "b"));
    due("street", -1001, read(x, "bb"));
    due("street", -1002, read(x, "b0/1;"));
    due("street", -1002, read(x, "b0:1;"));
    due("street", -1003, read(x, "b00;"));
    due("street", -1004, read(x, "b0011"));
    due("street", -1004, read(x, "b001"));
    due("street", -1003, read(x, "f001;"));
    due("street", -1003, read(x, "l12"));
    due("street", -1002, read(x, "l1;"));
    due("street", -1005, read(x, "b001;x"));
    due("street", -1005, read(x, "b001;;"));
    due("street", -1006, read(x, "b001;b"));
    due("street", -1005, read(x, "b001; f00;"));
    due("kind 1 goes ahead of kind 2", -1009, read(x, "b991;b001"));
    due("kind 1 at the size", -1100, read(x, "b001;" + HUNDRED_BYTES.substring(0, 92) + "f00"));
    dueCounts(x, 0, 0, 0, 0, 0, 0);
    fill(x, 6, 0, -1);
    due("street", -1000, x.street(6));
  }

  private static void promise2StreetFaultsOfKind2() {
    NumberedByAge x = begin(2);
    due("street", -2000, read(x, "b121;"));
    due("street", -2000, read(x, "b000;"));
    due("street", -2000, read(x, "b991;"));
    due("street", -2000, read(x, "f12;"));
    due("street", -2000, read(x, "f00;"));
    due("street", -2000, read(x, "l80;"));
    due("street", -2000, read(x, "l99;"));
    due("nothing of it comes", -2009, read(x, "b001;l15;b002;"));
    dueCounts(x, 0, 0, 0, 0, 0, 0);
    due("the first of two is told", -2005, read(x, "b001;f01;b001;"));
    due("each is tried on what those ahead made", 3, read(x, "b001;f00;b002;"));
    due("one that there is", -2004, read(x, "f00;f00;"));
    dueCounts(x, 1, 3, 2, 2, 0, 0);
    for (int i = 0; i < 13; i++) {
      due("street", 2, read(x, "f00;b001;"));
    }
    due("count", 29, x.count(1));
    due("no room for the second EVENT", -2008, read(x, "f00;l11;b001;"));
    dueCounts(x, 1, 29, 15, 15, 0, 0);
    due("street", 1, read(x, "f00;"));
    due("no room, but for a LAW", 1, read(x, "l11;"));
    due("street", -2004, read(x, "l22;b001;"));
    due("street", -2000, read(x, "b001;"));
    dueCounts(x, 0, 30, 15, 0, 1, 1);
  }

  private static void promise3Build() {
    NumberedByAge x = begin(3);
    due("build", 1, x.build(11, 9));
    due("build", 2, x.build(0, 1));
    due("build", -1, x.build(12, 1));
    due("build", -1, x.build(-1, 1));
    due("build", -1, x.build(1, 0));
    due("build", -1, x.build(1, 10));
    due("build", -1, x.build(11, 10));
    due("build", -1, x.build(LEAST, MOST));
    due("build", -3, x.build(11, 1));
    dueCounts(x, 2, 2, 2, 2, 0, 0);
    due("house", 9, x.house(11, 1));
    for (int i = 0; i < 14; i++) {
      due("burn", i + 2, x.burn(0));
      due("build", i + 3, x.build(0, 5));
    }
    due("build", -3, x.build(0, 5));
    due("build", -2, x.build(1, 5));
    due("build", -1, x.build(1, 0));
    dueCounts(x, 2, 30, 16, 16, 0, 0);
  }

  private static void promise3NumbersByEachKind() {
    NumberedByAge x = under(3, 1, 0);
    due("GAP", 1, x.build(0, 1));
    due("GAP", 2, x.build(1, 1));
    due("GAP", 3, x.build(2, 1));
    x.burn(0);
    due("GAP", 1, x.build(5, 1));
    due("GAP", 4, x.build(0, 1));
    x = under(3, 2, 0);
    due("QUARTER", 1, x.build(3, 1));
    due("QUARTER", 1, x.build(4, 1));
    due("QUARTER", 2, x.build(0, 1));
    due("QUARTER", 2, x.build(7, 1));
    due("QUARTER", 1, x.build(8, 1));
    x.burn(7);
    due("QUARTER", 3, x.build(7, 1));
    due("QUARTER", 2, x.build(11, 1));
    x = under(3, 3, 7);
    due("HIGH", 1 + 7 * 9, x.build(3, 9));
    due("HIGH", 2 + 7, x.build(4, 1));
    x = under(3, 4, 9);
    due("TWICE", 2, x.build(3, 9));
    due("TWICE", 4, x.build(4, 1));
    x = under(3, 6, 3);
    due("LAST", 1, x.build(0, 1));
    due("LAST", 2, x.build(1, 1));
    due("LAST", 3, x.build(2, 1));
    x.burn(0);
    due("LAST: a GAP's is below FIGURE", 1, x.build(3, 1));
    x.burn(2);
    due("LAST: it is not", 3, x.build(4, 1));
    due("LAST", 4, x.build(5, 1));
    x.burn(4);
    due("LAST: the GAP stays", 5, x.build(6, 1));
    x = under(3, 6, 0);
    due("LAST", 1, x.build(0, 1));
    due("LAST", 2, x.build(1, 1));
    x.burn(0);
    due("LAST", 3, x.build(0, 1));
    x = under(3, 7, 0);
    due("SIDE", 1, x.build(0, 1));
    due("SIDE", 4, x.build(1, 1));
    due("SIDE", 6, x.build(3, 1));
    due("SIDE", 2, x.build(5, 1));
    due("SIDE", 3, x.build(6, 1));
    numbersBySkip();
  }

  private static void numbersBySkip() {
    int[][] dues = {
      {1, 2, 3, 4, 5, 6, 7, 8, 9},
      {1, 2, 3, 4, 5, 6, 7, 8, 9},
      {1, 3, 5, 7, 9, 11, 13, 15, 17},
      {1, 2, 4, 5, 7, 8, 10, 11, 13},
      {1, 2, 3, 5, 6, 7, 9, 10, 11},
      {1, 2, 3, 4, 6, 7, 8, 9, 11},
      {1, 2, 3, 4, 5, 7, 8, 9, 10},
      {1, 2, 3, 4, 5, 6, 8, 9, 10},
      {1, 2, 3, 4, 5, 6, 7, 9, 10},
      {1, 2, 3, 4, 5, 6, 7, 8, 10}
    };
    for (int figure = 0; figure < dues.length; figure++) {
      NumberedByAge x = under(3, 5, figure);
      for (int i = 0; i < dues[figure].length; i++) {
        due("SKIP by " + figure, dues[figure][i], x.build(i, 1));
      }
    }
  }

  private static void promise4Burn() {
    NumberedByAge x = begin(4);
    due("burn", -3, x.burn(0));
    due("burn", -1, x.burn(12));
    due("burn", -1, x.burn(-1));
    x.build(3, 4);
    x.build(11, 4);
    due("burn", 2, x.burn(11));
    due("burn", -3, x.burn(11));
    dueCounts(x, 1, 3, 2, 1);
    due("house", -4, x.house(11, 1));
    due("build", 3, x.build(11, 1));
    for (int i = 0; i < 13; i++) {
      due("burn", i + 3, x.burn(11));
      due("build", i + 4, x.build(11, 1));
    }
    due("no room", -2, x.burn(11));
    due("none there", -3, x.burn(10));
    due("no such PLOT", -1, x.burn(12));
    dueCounts(x, 2, 30, 16, 16);
  }

  private static void promise5Enact() {
    NumberedByAge x = begin(5);
    due("enact", -1, x.enact(8));
    due("enact", -1, x.enact(-1));
    due("enact", -11, x.enact(0));
    x.row(0, 0, 1);
    due("enact", -12, x.enact(0));
    dueCounts(x, 0, 0, 0, 0, 0, 0);
    x.keep(0, 1, 3, 2);
    due("enact", 0, x.enact(0));
    due("enact", 3, x.enact(0));
    dueCounts(x, 0, 0, 0, 0, 3, 2);
    due("what is taken stays", 6, x.tax(0));
    x.keep(0, 1, 1, 9);
    dueCounts(x, 0, 0, 0, 0, 3, 2);
    due("enact", 3, x.enact(0));
    x.keep(0, 0, 0, 0);
    dueCounts(x, 0, 0, 0, 0, 1, 9);
  }

  private static void promise6House() {
    NumberedByAge x = under(6, 4, 0);
    x.build(11, 7);
    due("house", 2, x.house(11, 0));
    due("house", 7, x.house(11, 1));
    due("house", 0, x.house(11, 2));
    x.build(0, 1);
    x.burn(0);
    inForce(x, 1, 1);
    due("LAWS are no EVENTS", 2, x.house(11, 2));
    due("house", -4, x.house(0, 0));
    due("house", -4, x.house(0, 1));
    due("house", -4, x.house(0, 2));
    x.build(0, 3);
    due("house", 1, x.house(0, 0));
    due("house", 3, x.house(0, 1));
    due("house", 0, x.house(0, 2));
    due("house", 3, x.house(11, 2));
    due("house", -1, x.house(12, 0));
    due("house", -1, x.house(-1, 0));
    due("house", -1, x.house(0, 3));
    due("house", -1, x.house(0, -1));
    due("-1 goes ahead of -4", -1, x.house(5, 3));
  }

  // ---- numbers

  private static void promise7Have() {
    NumberedByAge x = under(7, 2, 0);
    x.build(0, 1);
    x.build(4, 1);
    x.build(11, 1);
    x.build(10, 1);
    due("have", 1 | 1 << 4 | 1 << 11, x.have(1));
    due("have", 1 << 10, x.have(2));
    due("have", 0, x.have(3));
    due("have", 0, x.have(MOST));
    due("have", -1, x.have(0));
    due("have", -1, x.have(LEAST));
    x.burn(4);
    due("have", 1 | 1 << 11, x.have(1));
  }

  private static void promise8Would() {
    NumberedByAge x = under(8, 3, 2);
    due("would", 1 + 2 * 9, x.would(0, 9));
    x.build(0, 1);
    due("on a PLOT with a house", 2 + 2 * 4, x.would(0, 4));
    due("would", -1, x.would(12, 1));
    due("would", -1, x.would(-1, 1));
    due("would", -1, x.would(0, 0));
    due("would", -1, x.would(0, 10));
    dueCounts(x, 1, 1, 1, 3);
    inForce(x, 7, 0);
    due("would", 3, x.would(2, 1));
    due("would", 4, x.would(3, 1));
    due("would", 1, x.would(4, 1));
    for (int i = 0; i < 14; i++) {
      x.burn(0);
      x.build(0, 1);
    }
    x.burn(0);
    due("with no room for an EVENT, too", 31, x.would(0, 1));
    x = under(8, 1, 0);
    for (int plot = 0; plot < 12; plot++) {
      due("build", plot + 1, x.build(plot, 1));
    }
    due("a GAP's with all PLOTS taken", 13, x.would(0, 1));
    x.burn(11);
    due("a GAP's with all but one taken", 12, x.would(0, 1));
    x.burn(10);
    due("the least of two", 11, x.would(0, 1));
  }

  private static void promise9Where() {
    NumberedByAge x = under(9, 7, 0);
    due("where", 1 | 1 << 2 | 1 << 4 | 1 << 6 | 1 << 8 | 1 << 10, x.where(1, 1));
    due("where", 0xFFF & ~0x555, x.where(2, 9));
    x.build(0, 1);
    x.build(5, 1);
    due("where", 1 << 8 | 1 << 10, x.where(1, 1));
    due("where", 1 << 9 | 1 << 11, x.where(2, 1));
    due("where", 1 << 2 | 1 << 4 | 1 << 6, x.where(3, 1));
    due("where", 1 << 1 | 1 << 3 | 1 << 7, x.where(4, 1));
    due("where", 0, x.where(5, 1));
    inForce(x, 3, 3);
    due("by HEIGHT", 0xFFF & ~0x21, x.where(3 + 3 * 4, 4));
    due("by HEIGHT", 0, x.where(3 + 3 * 4, 5));
    due("where", -1, x.where(0, 1));
    due("where", -1, x.where(LEAST, 1));
    due("where", -1, x.where(1, 0));
    due("where", -1, x.where(1, 10));
    due("where", 0, x.where(MOST, 1));
  }

  private static void promise10Letter() {
    NumberedByAge x = begin(10);
    due("letter", -4, x.letter(1));
    x.build(9, 1);
    x.build(0, 1);
    x.build(5, 1);
    due("letter", 9, x.letter(1));
    due("letter", 0, x.letter(2));
    due("letter", 5, x.letter(3));
    due("letter", -4, x.letter(4));
    x.burn(9);
    due("letter", 0, x.letter(1));
    x.build(9, 1);
    due("letter", 0, x.letter(1));
    due("letter", 9, x.letter(3));
    due("letter", -4, x.letter(12));
    due("letter", -1, x.letter(0));
    due("letter", -1, x.letter(13));
    due("letter", -1, x.letter(LEAST));
    for (int plot : new int[] {1, 2, 3, 4, 6, 7, 8, 10, 11}) {
      x.build(plot, 1);
    }
    due("letter", 11, x.letter(12));
  }

  private static void promise11Gaps() {
    NumberedByAge x = begin(11);
    due("gaps", 0, x.gaps());
    x.build(0, 1);
    due("gaps", 0, x.gaps());
    x.build(1, 1);
    x.build(2, 1);
    x.burn(1);
    due("gaps", 1, x.gaps());
    x.burn(2);
    due("gaps", 0, x.gaps());
    inForce(x, 3, 9);
    x.build(3, 9);
    due("gaps", 85 - 2, x.gaps());
    inForce(x, 2, 0);
    x.build(4, 1);
    due("of one NUMBER twice", 85 - 2, x.gaps());
  }

  // ---- walks

  /** NUMBERS 1 on PLOTS 2 and 9, 2 on PLOT 0, 3 on PLOT 11, 4 on PLOT 3. */
  private static NumberedByAge forWalks(int ofPromise) {
    NumberedByAge x = begin(ofPromise);
    due("street", 7, read(x, "l20;b021;b091;l60;b001;b111;b031;"));
    due("house", 1, x.house(2, 0));
    due("house", 1, x.house(9, 0));
    due("house", 2, x.house(0, 0));
    due("house", 3, x.house(11, 0));
    due("house", 4, x.house(3, 0));
    return x;
  }

  private static void promise12Walk() {
    NumberedByAge x = forWalks(12);
    fill(x, 0, 1, 1);
    due("walk", 0, x.walk(0, 2));
    due("walk", 2, x.walk(0, 0));
    due("walk", 3, x.walk(0, 5));
    due("walk", 3, x.walk(0, 6));
    due("walk", 2, x.walk(0, 11));
    fill(x, 0, 1, 2, 3);
    due("nearer end first", 11 + 4, x.walk(0, 4));
    due("nearer end first", 11 + 4, x.walk(0, 7));
    due("walk", 11, x.walk(0, 0));
    due("walk", 11, x.walk(0, 11));
    fill(x, 0, 1, 4, 3);
    due("walk", 1 + 8, x.walk(0, 4));
    due("walk", 4 + 8, x.walk(0, 7));
    fill(x, 0, 1, 4, 1, 4, 1, 1);
    due("each told several times", 4, x.walk(0, 6));
    due("walk", 3, x.walk(0, 5));
    fill(x, 0, 1, 3, 4, 5);
    due("walk", -4, x.walk(0, 3));
    fill(x, 0, 1, 0);
    due("0 is no NUMBER of a house", -4, x.walk(0, 3));
    fill(x, 0, 1, 65537);
    due("the lowest bits", 0, x.walk(0, 9));
    fill(x, 0, 1);
    due("walk", 0, x.walk(0, 7));
    due("walk", -1, x.walk(0, 12));
    due("walk", -1, x.walk(0, -1));
    due("walk", -1, x.walk(8, 0));
    due("walk", -1, x.walk(-1, 0));
    due("walk", -1, x.walk(1, 12));
    due("walk", -11, x.walk(1, 0));
    x.keep(1, 1, 0, 0);
    due("walk", -12, x.walk(1, 0));
    fill(x, 1, 0, 1);
    due("walk", -12, x.walk(1, 0));
    fill(x, 1, 2, 1);
    due("walk", -12, x.walk(1, 0));
  }

  private static void promise13Search() {
    NumberedByAge x = forWalks(13);
    fill(x, 0, 1, 1);
    due("search", 0, x.search(0, 2));
    due("search", 3, x.search(0, 5));
    due("search", 3, x.search(0, 6));
    due("by way of PLOT 0", 1 + 2, x.search(0, 1));
    due("by way of PLOT 11", 1 + 2, x.search(0, 10));
    fill(x, 0, 1, 2, 3);
    due("search", 5 + 11, x.search(0, 5));
    due("search", 5 + 11, x.search(0, 6));
    due("search", 11, x.search(0, 0));
    due("search", 11, x.search(0, 11));
    fill(x, 0, 1, 4);
    due("search", 2, x.search(0, 5));
    due("away from it first", 5 + 11 - 3, x.search(0, 6));
    due("away from it first", 2 + 3, x.search(0, 2));
    fill(x, 0, 1, 9);
    due("search", -4, x.search(0, 3));
    fill(x, 0, 1, 1, 0);
    due("search", -4, x.search(0, 2));
    fill(x, 0, 1);
    due("search", 0, x.search(0, 7));
    due("search", -1, x.search(0, 12));
    due("search", -1, x.search(0, -1));
    due("search", -1, x.search(8, 0));
    due("search", -1, x.search(1, 12));
    due("search", -11, x.search(1, 0));
    x.keep(1, 1, 0, 0);
    due("search", -12, x.search(1, 0));
    fill(x, 1, 0, 1);
    due("search", -12, x.search(1, 0));
    fill(x, 1, 2, 1);
    due("search", -12, x.search(1, 0));
  }

  /** NUMBERS 3, 1, 2, 2, 5 on PLOTS 0, 2, 3, 7, 8. */
  private static NumberedByAge forRises(int ofPromise) {
    NumberedByAge x = begin(ofPromise);
    due("street", 10, read(x, "b021;b031;b001;l40;l00;b091;b081;l20;b041;b071;"));
    x.burn(9);
    x.burn(4);
    for (int[] told : new int[][] {{0, 3}, {2, 1}, {3, 2}, {7, 2}, {8, 5}}) {
      due("house", told[1], x.house(told[0], 0));
    }
    return x;
  }

  private static void promise14Rise() {
    NumberedByAge x = begin(14);
    due("rise", 0, x.rise());
    x.build(6, 1);
    due("rise", 1, x.rise());
    x.build(5, 1);
    due("rise", 1, x.rise());
    x.build(4, 1);
    x.build(11, 1);
    due("rise", 2, x.rise());
    due("each greater, others left out", 3, forRises(14).rise());
    x = begin(14);
    for (int plot = 0; plot < 12; plot++) {
      x.build(plot, 1);
    }
    due("rise", 12, x.rise());
  }

  private static void promise15Falls() {
    NumberedByAge x = begin(15);
    due("falls", 0, x.falls());
    x.build(6, 1);
    due("falls", 0, x.falls());
    x.build(2, 1);
    due("falls", 1, x.falls());
    x.build(11, 1);
    due("falls", 1, x.falls());
    due("no greater one, too", 2, forRises(15).falls());
    x = begin(15);
    for (int plot = 11; plot >= 0; plot--) {
      x.build(plot, 1);
    }
    due("falls", 11, x.falls());
  }

  // ---- laws, orders, towns

  private static void promise16ByLaw() {
    NumberedByAge x = begin(16);
    due("street", 6, read(x, "b002;b014;f00;l45;b029;b003;"));
    due("LAW", 2, x.byLaw(1, 0, 0));
    due("LAW", 3, x.byLaw(2, 0, 9));
    due("LAW", 4, x.byLaw(0, 0, 0));
    due("GAP", 1, x.byLaw(2, 1, 0));
    due("GAP", 3, x.byLaw(0, 1, 0));
    due("QUARTER", 4, x.byLaw(0, 2, 0));
    due("HIGH", 3 + 5 * 9, x.byLaw(2, 3, 5));
    due("TWICE", 8, x.byLaw(0, 4, 0));
    due("SKIP", 7, x.byLaw(0, 5, 2));
    due("LAST", 3, x.byLaw(2, 6, 1));
    due("LAST", 1, x.byLaw(2, 6, 2));
    due("LAST", 3, x.byLaw(0, 6, 2));
    due("SIDE", 4, x.byLaw(1, 7, 0));
    due("SIDE", 5, x.byLaw(2, 7, 0));
    due("byLaw", -4, x.byLaw(3, 0, 0));
    due("byLaw", -1, x.byLaw(12, 0, 0));
    due("byLaw", -1, x.byLaw(-1, 0, 0));
    due("byLaw", -1, x.byLaw(0, 8, 0));
    due("byLaw", -1, x.byLaw(0, -1, 0));
    due("byLaw", -1, x.byLaw(0, 0, 10));
    due("byLaw", -1, x.byLaw(0, 0, -1));
    due("-1 goes ahead of -4", -1, x.byLaw(3, 8, 0));
    dueCounts(x, 3, 5, 4, 8, 4, 5);
    due("house", 6, x.house(2, 0));
  }

  private static void promise17Laws() {
    NumberedByAge x = begin(17);
    due("no house: by all", 255, x.laws(0));
    due("laws", -1, x.laws(10));
    due("laws", -1, x.laws(-1));
    x.build(0, 1);
    due("1", 0b11101111, x.laws(0));
    due("1", 0b11100111, x.laws(1));
    x.build(4, 1);
    due("1, 2", 0b01101011, x.laws(0));
    x.burn(0);
    due("2 is left", 0b01101011, x.laws(0));
    due("SKIP by 2", 0b01000011, x.laws(2));
    x.build(1, 1);
    due("3 was not built by GAP", 1 | 1 << 3 | 1 << 5 | 1 << 6, x.laws(0));
    due("nor by LAST 2", 1, x.laws(2));
    dueCounts(x, 2, 4, 3, 3, 0, 0);
    x = under(17, 4, 0);
    x.build(1, 1);
    due("2", 1 << 4 | 1 << 7, x.laws(5));
    due("2, by HIGH 1", 1 << 3 | 1 << 4 | 1 << 7, x.laws(1));
  }

  private static void promise18Orders() {
    NumberedByAge x = begin(18);
    due("none: one order", 1, x.orders(0));
    due("none: no first", -4, x.orders(1));
    due("orders", -1, x.orders(2));
    due("orders", -1, x.orders(-1));
    inForce(x, 2, 0);
    for (int plot : new int[] {5, 1, 4, 0, 9}) {
      x.build(plot, 1);
    }
    due("2 and 2 and 1 of 5", 30, x.orders(0));
    due("orders", 1, x.orders(1));
    x.build(8, 1);
    x.build(2, 1);
    due("3 and 2 and 2 of 7", 210, x.orders(0));
    x.build(3, 1);
    due("orders", -2, x.orders(0));
    due("orders", -2, x.orders(1));
    due("orders", -1, x.orders(2));
    x.burn(3);
    due("orders", 210, x.orders(0));
    x.burn(1);
    due("no first of a QUARTER", 0, x.orders(0));
    due("orders", -4, x.orders(1));
    inForce(x, 0, 0);
    due("orders", 0, x.orders(0));
    dueCounts(x, 6, 10, 8, 3, 0, 0);
    ordersByHeightAndLast();
  }

  private static void ordersByHeightAndLast() {
    NumberedByAge x = under(18, 3, 1);
    due("build", 6, x.build(7, 5));
    due("build", 6, x.build(2, 4));
    due("by HIGH", 1, x.orders(0));
    due("by HIGH", 7, x.orders(1));
    inForce(x, 3, 2);
    due("by another FIGURE", 0, x.orders(0));
    x = begin(18);
    x.build(10, 1);
    x.build(3, 1);
    x.burn(10);
    inForce(x, 1, 0);
    x.build(5, 1);
    due("by GAP", 1, x.orders(0));
    due("by GAP", 5, x.orders(1));
    x = under(18, 7, 0);
    x.build(4, 1);
    x.build(11, 1);
    x.build(7, 1);
    due("by SIDE", 3, x.orders(0));
    due("by SIDE", 4, x.orders(1));
    // Orders that begin with the least PLOT and come to nothing are none.
    x = begin(18);
    inForce(x, 2, 0);
    due("build", 1, x.build(0, 1));
    due("build", 1, x.build(4, 1));
    inForce(x, 6, 0);
    due("build", 2, x.build(8, 1));
    due("by LAST", 0, x.orders(0));
    due("by LAST", -4, x.orders(1));
  }

  private static void promise19Joined() {
    NumberedByAge x = begin(19);
    fill(x, 0, 1, 1, 2);
    due("no house", 0, x.joined(0, 0));
    due("no house", 0, x.joined(0, 1));
    for (int plot = 0; plot < 6; plot++) {
      x.build(plot, 1);
    }
    x.burn(3);
    fill(x, 0, 1, 1, 4, 2, 9, 2);
    due("2 is told twice", 3, x.joined(0, 0));
    due("joined", 6, x.joined(0, 1));
    fill(x, 0, 1, 4);
    due("joined", 0, x.joined(0, 0));
    due("joined", 0, x.joined(0, 1));
    fill(x, 0, 1, 3);
    due("joined", 1, x.joined(0, 0));
    due("joined", 1, x.joined(0, 1));
    fill(x, 0, 1, 1, 32767);
    due("above all shorts", 3, x.joined(0, 1));
    due("joined", -1, x.joined(0, 2));
    due("joined", -1, x.joined(0, -1));
    due("joined", -1, x.joined(8, 0));
    due("joined", -1, x.joined(-1, 0));
    due("joined", -1, x.joined(1, 2));
    due("joined", -11, x.joined(1, 0));
    x.keep(1, 1, 0, 0);
    due("joined", -12, x.joined(1, 0));
    fill(x, 1, 0, 1);
    due("joined", -12, x.joined(1, 0));
    fill(x, 1, 2, 1);
    due("joined", -12, x.joined(1, 0));
    fill(x, 1, 1);
    due("joined", -13, x.joined(1, 0));
    due("joined", -13, x.joined(1, 1));
    fill(x, 1, 1, 1, 2, 0);
    due("joined", -13, x.joined(1, 0));
    due("joined", -13, x.joined(1, 1));
    fill(x, 1, 1, 32768);
    due("joined", -13, x.joined(1, 0));
    int[] ones = new int[20];
    java.util.Arrays.fill(ones, 1);
    fill(x, 1, 1, ones);
    due("joined", 20, x.joined(1, 0));
    due("joined", 3, x.joined(1, 1));
    ones = new int[21];
    java.util.Arrays.fill(ones, 1);
    fill(x, 1, 1, ones);
    due("joined", -13, x.joined(1, 0));
    due("joined", -13, x.joined(1, 1));
  }

  private static void promise20Seeded() {
    NumberedByAge x = begin(20);
    // Seed 0: draws 0 and 21468 modulo 9, so PLOT 0, HEIGHT 4; then 9988 and 22117: PLOT 4, HEIGHT 5;
    // 3498 and 16927: PLOT 6; 16045 and 19741: PLOT 1; 12122 and 8410: PLOT 2; 12261 and 27052: PLOT 9.
    due("seeded", 0, x.seeded(1, 0, 0));
    due("seeded", 1, x.seeded(1, 0, 1));
    due("seeded", 0, x.seeded(6, 0, 0));
    due("1, 4, 5, 2, 3, 6 on 0, 1, 2, 4, 6, 9", 4, x.seeded(6, 0, 1));
    inForce(x, 3, 1);
    due("by HIGH 1: 1 and 4", 4, x.seeded(1, 0, 0));
    inForce(x, 4, 1);
    due("by TWICE", 6, x.seeded(6, 0, 0));
    due("by TWICE", 4, x.seeded(6, 0, 1));
    due("in mind", 0, x.count(1));
    due("a house here stays out of it", 2, x.build(0, 1));
    due("seeded", 6, x.seeded(6, 0, 0));
    due("seeded", 1, x.count(0));
    due("seeded", -1, x.seeded(0, 0, 0));
    due("seeded", -1, x.seeded(31, 0, 0));
    due("seeded", -1, x.seeded(LEAST, 0, 0));
    due("seeded", -1, x.seeded(1, 0, 2));
    due("seeded", -1, x.seeded(1, 0, -1));
    x = under(20, 2, 0);
    due("as the shared tests tell", 2, x.seeded(30, 5, 0));
    due("as the shared tests tell", 4, x.seeded(30, 5, 1));
  }

  private static void promise21Judge() {
    NumberedByAge x = begin(21);
    x.build(1, 1);
    x.build(11, 1);
    fill(x, 0, 0, 0, 1, 0, 0, 0, 0, 0, 0, 0, 0, 0, 2);
    due("judge", -4, x.judge(0));
    fill(x, 0, 1, 0, 1, 0, 0, 0, 0, 0, 0, 0, 0, 0, 3);
    due("judge", 11, x.judge(0));
    fill(x, 0, 1, 0, 1, 0, 0, 0, 0, 0, 0, 0, 0, 0, -32768);
    due("the least short is skipped", -4, x.judge(0));
    fill(x, 0, 0, -128, -128, -128, -128, -128, -128, -128, -128, -128, -128, -128, -128);
    due("the least byte is skipped", -4, x.judge(0));
    fill(x, 0, 2, LEAST, LEAST, LEAST, LEAST, LEAST, LEAST, LEAST, LEAST, LEAST, LEAST, LEAST, LEAST);
    due("the least int is skipped", -4, x.judge(0));
    fill(x, 0, 1, -128);
    due("not the least short", 0, x.judge(0));
    fill(x, 0, 2, -32768);
    due("not the least int", 0, x.judge(0));
    fill(x, 0, 2, LEAST + 1);
    due("not the least int", 0, x.judge(0));
    fill(x, 0, 0, 0, 1, 0);
    due("short", 3, x.judge(0));
    fill(x, 0, 0);
    due("short", 0, x.judge(0));
    fill(x, 0, 0, 0, 1, 5);
    due("wrong and short", 2, x.judge(0));
    fill(x, 0, 2, 0, 1, 0, 0, 0, 0, 0, 0, 0, 0, 0, 2, 0, 0);
    due("long", 12, x.judge(0));
    fill(x, 0, 2, 0, 1, 0, 0, 0, 0, 0, 0, 0, 0, 0, 2, LEAST);
    due("long", 12, x.judge(0));
    fill(x, 0, 2, 1, 1, 0, 0, 0, 0, 0, 0, 0, 0, 0, 2, 0);
    due("wrong and long", 0, x.judge(0));
    due("judge", -1, x.judge(8));
    due("judge", -1, x.judge(-1));
    due("judge", -11, x.judge(1));
    x.keep(1, 1, 0, 0);
    due("judge", -12, x.judge(1));
  }

  // ---- the image, what is told

  private static void promises22And23Image() {
    NumberedByAge x = begin(22);
    due("restore", -3, x.restore());
    due("image", 0, x.image());
    x.build(0, 1);
    due("restore", 0, x.restore());
    dueCounts(x, 0, 0, 0, 0, 0, 0);
    due("street", 6, read(x, "l25;b003;b014;b054;f00;l36;"));
    due("image", 4, x.image());
    promise = 23;
    fill(x, 0, 2, 77);
    read(x, "f01;l00;f05;b119;b001;");
    dueCounts(x, 2, 8, 5, 5, 0, 0);
    due("restore", 4, x.restore());
    dueCounts(x, 2, 4, 3, 2, 3, 6);
    due("house", 2, x.house(1, 0));
    due("house", 4, x.house(1, 1));
    due("house", 2, x.house(1, 2));
    due("house", 1, x.house(5, 0));
    due("house", -4, x.house(11, 0));
    due("EVENTS, too", 2, x.byLaw(1, 2, 0));
    inForce(x, 2, 0);
    due("QUARTERS, too", 3, x.would(0, 1));
    due("EVENTS, too", 2, x.byLaw(1, 0, 0));
    due("SHELVES stay", 77, x.element(0, 0));
    x.burn(1);
    due("THE IMAGE stays", 4, x.restore());
    due("house", 2, x.house(1, 0));
    x.burn(5);
    due("image", 5, x.image());
    x.burn(1);
    due("the newer one", 5, x.restore());
    dueCounts(x, 1, 5, 3, 2, 3, 6);
  }

  private static void promise24Count() {
    NumberedByAge x = under(24, 4, 9);
    dueCounts(x, 0, 0, 0, 0, 4, 9);
    x.build(0, 1);
    x.build(11, 1);
    x.burn(11);
    dueCounts(x, 1, 3, 2, 2, 4, 9);
    x.burn(0);
    dueCounts(x, 0, 4, 2, 0, 4, 9);
    due("count", -1, x.count(6));
    due("count", -1, x.count(-1));
    due("count", -1, x.count(LEAST));
  }

  // ---- shelves

  private static void promise25Keep() {
    NumberedByAge x = begin(25);
    due("keep", 0, x.keep(0, 1, 7, 9));
    due("keep", 0, x.keep(7, 1, 0, 0));
    due("tax", 2 - 9, x.tax(0));
    due("keep", -1, x.keep(8, 1, 0, 0));
    due("keep", -1, x.keep(-1, 0, 0, 0));
    due("keep", -1, x.keep(0, 2, 0, 0));
    due("keep", -1, x.keep(0, -1, 0, 0));
    due("keep", -1, x.keep(0, 1, 8, 0));
    due("keep", -1, x.keep(0, 1, -1, 0));
    due("keep", -1, x.keep(0, 1, 0, 10));
    due("keep", -1, x.keep(0, 1, 0, -1));
    due("a refused call changes nothing", 2 - 9, x.tax(0));
    due("the others do not matter", 0, x.keep(0, 0, LEAST, MOST));
    due("tax", -11, x.tax(0));
    fill(x, 1, 2, 5);
    due("keep", 0, x.keep(1, 1, 3, 0));
    due("put", -12, x.put(1, 0, 0));
    due("tax", 6, x.tax(1));
    fill(x, 1, 2, 5);
    due("keep", 0, x.keep(1, 0, 0, 0));
    due("put", -11, x.put(1, 0, 0));
    due("tax", 3, x.tax(7));
  }

  private static void promise26Row() {
    NumberedByAge x = begin(26);
    due("row", 0, x.row(0, 2, 100));
    due("element", 0, x.element(0, 99));
    due("throws", 2, thrown(x, 0, 100));
    x.put(0, 0, 8);
    due("row", -1, x.row(0, 2, 101));
    due("row", -1, x.row(0, 3, 1));
    due("row", -1, x.row(0, -1, 1));
    due("row", -1, x.row(8, 0, 1));
    due("row", -1, x.row(-1, 0, 1));
    due("row", -14, x.row(0, 0, -1));
    due("row", -14, x.row(0, 0, LEAST));
    due("-1 goes ahead of -14", -1, x.row(0, 3, -1));
    due("-1 goes ahead of -14", -1, x.row(8, 0, -1));
    due("a refused call changes nothing", 8, x.element(0, 0));
    due("row", 0, x.row(0, 2, 1));
    due("0 at first", 0, x.element(0, 0));
    due("row", 0, x.row(0, 0, 0));
    due("put", -13, x.put(0, 0, 0));
    x.keep(0, 1, 0, 0);
    due("row", 0, x.row(0, 1, 1));
    due("tax", -12, x.tax(0));
  }

  private static void promise27Put() {
    NumberedByAge x = begin(27);
    int[][] kept = {
      {0, 127, 127}, {0, 128, -128}, {0, 255, -1}, {0, -129, 127}, {0, 256, 0}, {0, MOST, -1}, {0, LEAST, 0},
      {1, 32767, 32767}, {1, 32768, -32768}, {1, 65535, -1}, {1, -32769, 32767}, {1, 65536 + 7, 7},
      {2, MOST, MOST}, {2, LEAST, LEAST}, {2, -1, -1}
    };
    for (int[] one : kept) {
      fill(x, 0, one[0], 0, one[1], 0);
      due("sort " + one[0], one[2], x.element(0, 1));
      due("sort " + one[0], 0, x.element(0, 0));
      due("sort " + one[0], 0, x.element(0, 2));
    }
    due("put", -1, x.put(8, 0, 0));
    due("put", -1, x.put(-1, 0, 0));
    due("put", -11, x.put(1, 0, 0));
    due("put", -11, x.put(1, -1, 0));
    x.keep(1, 1, 0, 0);
    due("put", -12, x.put(1, 0, 0));
    due("put", -12, x.put(1, -1, 0));
    due("put", -13, x.put(0, -1, 0));
    due("put", -13, x.put(0, 3, 0));
    due("put", -13, x.put(0, MOST, 0));
    due("put", 0, x.put(0, 2, 4));
    due("element", 4, x.element(0, 2));
  }

  private static void promise28Element() {
    NumberedByAge x = begin(28);
    fill(x, 7, 2, 5, LEAST);
    due("element", LEAST, x.element(7, 1));
    due("throws", 1, thrown(x, 8, 0));
    due("throws", 1, thrown(x, -1, -1));
    due("throws", 2, thrown(x, 0, 0));
    x.keep(0, 1, 0, 0);
    due("throws", 2, thrown(x, 0, 0));
    due("throws", 2, thrown(x, 7, 2));
    due("throws", 2, thrown(x, 7, -1));
    due("throws", 0, thrown(x, 7, 0));
  }

  private static void promise29Copy() {
    NumberedByAge x = begin(29);
    fill(x, 0, 1, 1, 2, 3, 4, 5);
    fill(x, 1, 1, 0, 0, 0);
    due("copy", 2, x.copy(0, 3, 1, 1, 2));
    due("element", 0, x.element(1, 0));
    due("element", 4, x.element(1, 1));
    due("element", 5, x.element(1, 2));
    due("what is taken stays", 4, x.element(0, 3));
    due("onto itself", 4, x.copy(0, 0, 0, 1, 4));
    for (int i = 1; i < 5; i++) {
      due("element", i, x.element(0, i));
    }
    due("onto itself, back", 4, x.copy(0, 1, 0, 0, 4));
    for (int i = 0; i < 4; i++) {
      due("element", i + 1, x.element(0, i));
    }
    due("none", 0, x.copy(0, 5, 1, 3, 0));
    due("copy", -13, x.copy(0, 6, 1, 0, 0));
    due("copy", -13, x.copy(0, 0, 1, 4, 0));
    due("copy", -13, x.copy(0, 0, 1, 0, 4));
    due("copy", -13, x.copy(1, 0, 0, 0, 4));
    due("copy", -13, x.copy(0, 4, 1, 0, 2));
    due("copy", -13, x.copy(0, -1, 1, 0, 1));
    due("copy", -13, x.copy(0, 0, 1, -1, 1));
    due("copy", -13, x.copy(0, 0, 1, 0, -1));
    due("copy", -13, x.copy(0, MOST, 1, 0, MOST));
    due("copy", -13, x.copy(0, 0, 1, MOST, 2));
    due("copy", -1, x.copy(8, 0, 1, 0, 1));
    due("copy", -1, x.copy(0, 0, 8, 0, 1));
    due("copy", -1, x.copy(-1, 0, 2, 0, 1));
    due("copy", -11, x.copy(0, 0, 2, 0, 1));
    due("copy", -11, x.copy(2, 0, 0, 0, 1));
    x.keep(3, 1, 0, 0);
    due("-11 goes ahead of -12", -11, x.copy(3, 0, 2, 0, 1));
    due("copy", -12, x.copy(3, 0, 0, 0, 1));
    due("copy", -12, x.copy(0, 0, 3, 0, 1));
    due("copy", -12, x.copy(3, 0, 3, 0, 0));
    fill(x, 4, 2, 1, 2, 3);
    due("copy", -12, x.copy(0, 0, 4, 0, 1));
    due("-12 goes ahead of -13", -12, x.copy(4, -1, 0, 0, 1));
    due("element", 1, x.element(4, 0));
  }

  private static void promise30Tax() {
    NumberedByAge x = begin(30);
    int[] withoutFigure = {3, 3, 2, 6, 3, 7, 6, 2};
    int[] withFigure4 = {3, 7, 2, 6, 3, 7, 14, -2};
    for (int kind = 0; kind < 8; kind++) {
      x.keep(0, 1, kind, 0);
      due("tax of KIND " + kind, withoutFigure[kind], x.tax(0));
      x.keep(0, 1, kind, 4);
      due("tax of KIND " + kind, withFigure4[kind], x.tax(0));
    }
    due("tax", -1, x.tax(8));
    due("tax", -1, x.tax(-1));
    due("tax", -11, x.tax(1));
    x.row(1, 0, 0);
    due("tax", -12, x.tax(1));
  }

  private static void promise31Toss() {
    NumberedByAge x = begin(31);
    int[] withFigure4 = {4, 4, 4, 4, -15, 4, 214, 104};
    for (int kind = 0; kind < 8; kind++) {
      x.keep(0, 1, kind, 0);
      due("toss of KIND " + kind, -15, x.toss(0));
      x.keep(0, 1, kind, 4);
      due("toss of KIND " + kind, withFigure4[kind], x.toss(0));
    }
    due("toss", -1, x.toss(8));
    due("toss", -1, x.toss(-1));
    due("toss", -11, x.toss(1));
    x.row(1, 0, 0);
    due("toss", -12, x.toss(1));
  }
}
