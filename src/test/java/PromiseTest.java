/** Each promise of the document: ordinary inputs, the edges that it names, wrong inputs. */
public final class PromiseTest {
  private static final int NONE = -1, BAD = -2, FULL = -3, EMPTY = -4, KEPT = -5;
  private static final int MIN = Integer.MIN_VALUE, MAX = Integer.MAX_VALUE;
  private static int wrong = 0;

  private static void due(int promise, String call, int got, int want) {
    if (got != want) {
      wrong++;
      System.out.println("promise " + promise + ": " + call + " answered " + got + ", due is " + want);
    }
  }

  /** A row or a word by its places. */
  private static int w(int... places) {
    int number = 0;
    for (int i = 0; i < places.length; i++) number |= places[i] << 3 * i;
    return number;
  }

  private static TableChoices names(int... values) {
    TableChoices x = new TableChoices();
    for (int v : values) x.name(v);
    return x;
  }

  public static void main(String[] args) {
    newObject();
    clear();
    name();
    rows();
    table();
    tuple();
    machine();
    step();
    element();
    order();
    sum();
    tally();
    first();
    constraintsFull();
    undo();
    cut();
    run();
    runRounds();
    runFails();
    mark();
    back();
    domain();
    why();
    allows();
    told();
    least();
    count();
    next();
    of();
    System.out.println(wrong == 0 ? "all promises hold" : wrong + " answers are not as due");
    if (wrong != 0) System.exit(1);
  }

  private static void newObject() {
    TableChoices x = new TableChoices();
    for (int what = 0; what < 5; what++) due(1, "of(" + what + ")", x.of(what), 0);
    due(1, "domain(0)", x.domain(0), BAD);
    due(1, "why(0, 0, 0)", x.why(0, 0, 0), BAD);
    due(1, "told(0, 0)", x.told(0, 0), BAD);
    due(1, "undo()", x.undo(), NONE);
    due(1, "back()", x.back(), NONE);
    due(1, "run()", x.run(), 0);
    due(1, "of(3) after a run of nothing", x.of(3), 1);
  }

  private static void clear() {
    TableChoices x = names(3, 3);
    x.sum(2, w(0, 1), 0, 1);
    x.sum(2, w(1, 0), 0, 1);
    x.mark();
    x.run();
    due(2, "clear()", x.clear(), 2);
    for (int what = 0; what < 5; what++) due(2, "of(" + what + ")", x.of(what), 0);
    due(2, "clear() again", x.clear(), 0);
    due(2, "back()", x.back(), NONE);
    due(2, "count()", x.count(), 1);
    due(2, "name(2)", x.name(2), 0);
    due(2, "domain(0)", x.domain(0), 3);
    due(2, "why(0, 0, 0)", x.why(0, 0, 0), NONE);
    due(2, "why(0, 2, 0)", x.why(0, 2, 0), 11);
    due(2, "why(0, 2, 1), that had a round before", x.why(0, 2, 1), 0);
    due(2, "table(1, 0)", x.table(1, 0), 0);
  }

  private static void name() {
    TableChoices x = new TableChoices();
    for (int bad : new int[] {0, 7, -1, MIN, MAX}) due(3, "name(" + bad + ")", x.name(bad), BAD);
    due(3, "of(0)", x.of(0), 0);
    for (int i = 0; i < 6; i++) due(3, "name(" + (i + 1) + ")", x.name(i + 1), i);
    for (int i = 0; i < 6; i++) due(3, "domain(" + i + ")", x.domain(i), (1 << i + 1) - 1);
    due(3, "name(1), a seventh", x.name(1), FULL);
    due(3, "name(7), BAD ahead of FULL", x.name(7), BAD);
    x.mark();
    due(3, "name(1), KEPT ahead of FULL", x.name(1), KEPT);
    due(3, "name(0), BAD ahead of KEPT", x.name(0), BAD);
    x.back();
    due(3, "name(1), FULL again", x.name(1), FULL);
    due(3, "of(0)", x.of(0), 6);
    TableChoices y = names(2);
    y.mark();
    due(3, "name(2) behind a mark", y.name(2), KEPT);
    y.back();
    due(3, "name(2) after back", y.name(2), 1);
  }

  private static void rows() {
    TableChoices x = names(2, 2, 2);
    int[][] bad = {
      {0, 0}, {-1, 0}, {7, w(0, 1, 2)}, {MIN, 0}, {MAX, 0}, {1, 3}, {1, 7}, {1, 8}, {2, w(0, 0)}, {2, w(1, 3)},
      {2, w(0, 1, 2)}, {3, w(0, 1, 0)}, {3, w(0, 1, 2, 1)}, {3, w(0, 1, 2) | 1 << 30}, {3, w(0, 1, 2) | MIN}, {3, -1},
      {4, w(0, 1, 2, 0)}, {6, w(0, 1, 2)}
    };
    for (int[] b : bad) {
      String row = b[0] + ", " + b[1];
      due(4, "table(" + row + ")", x.table(b[0], b[1]), BAD);
      due(6, "machine(" + row + ", 1, 1)", x.machine(b[0], b[1], 1, 1), BAD);
      due(8, "element(" + row + ")", x.element(b[0], b[1]), BAD);
      due(9, "order(" + row + ", true)", x.order(b[0], b[1], true), BAD);
      due(10, "sum(" + row + ", 0, 1)", x.sum(b[0], b[1], 0, 1), BAD);
      due(11, "tally(" + row + ", 0, 0, 1)", x.tally(b[0], b[1], 0, 0, 1), BAD);
      due(12, "first(" + row + ", 0, 1)", x.first(b[0], b[1], 0, 1), BAD);
    }
    due(4, "of(1)", x.of(1), 0);
    due(4, "table(1, 2)", x.table(1, 2), 0);
    due(4, "table(3, 2 0 1)", x.table(3, w(2, 0, 1)), 1);
    due(4, "told(1, 2)", x.told(1, 2), w(2, 0, 1));
  }

  private static void table() {
    TableChoices x = names(2, 2);
    due(4, "table(2, 0 1)", x.table(2, w(0, 1)), 0);
    due(4, "told(0, 0)", x.told(0, 0), 0);
    due(4, "told(0, 3)", x.told(0, 3), 0);
    due(4, "told(0, 4), without tuples", x.told(0, 4), 0);
    due(4, "allows(0, 0)", x.allows(0, 0), 0);
    due(4, "run() fails without tuples", x.run(), -100);
    due(4, "table(2, 1 0)", x.table(2, w(1, 0)), 1);
  }

  private static void tuple() {
    TableChoices x = names(6, 6, 6);
    x.table(3, w(2, 0, 1));
    x.sum(1, 0, 0, 5);
    due(5, "tuple(0, 5 0 7)", x.tuple(0, w(5, 0, 7)), 1);
    due(5, "tuple(0, 7 7 3)", x.tuple(0, w(7, 7, 3)), 2);
    due(5, "tuple(0, 6 0 0), 6 is no value", x.tuple(0, w(6, 0, 0)), BAD);
    due(5, "tuple(0, 0 0 6)", x.tuple(0, w(0, 0, 6)), BAD);
    due(5, "tuple(0, a bit above)", x.tuple(0, 1 << 9), BAD);
    due(5, "tuple(0, -1)", x.tuple(0, -1), BAD);
    due(5, "tuple(1, 0), no table", x.tuple(1, 0), BAD);
    due(5, "tuple(2, 0), none", x.tuple(2, 0), BAD);
    due(5, "tuple(-1, 0)", x.tuple(-1, 0), BAD);
    due(5, "tuple(MIN, 0)", x.tuple(MIN, 0), BAD);
    due(5, "tuple(MAX, 0)", x.tuple(MAX, 0), BAD);
    due(5, "told(0, 3)", x.told(0, 3), 2);
    for (int i = 3; i <= 20; i++) due(5, "tuple(0, 1 1 1), the same again", x.tuple(0, w(1, 1, 1)), i);
    due(5, "tuple(0, 1 1 1), one too many", x.tuple(0, w(1, 1, 1)), FULL);
    due(5, "tuple(0, 6 6 6), BAD ahead of FULL", x.tuple(0, w(6, 6, 6)), BAD);
    due(5, "told(0, 3)", x.told(0, 3), 20);
    // 5 0 *: 6 words; * * 3: 36 words, 5 0 3 among both; 1 1 1: 1 word
    due(5, "told(0, 4), words and not tuples", x.told(0, 4), 42);
    due(5, "allows(0, 5 0 2)", x.allows(0, w(5, 0, 2)), 1);
    due(5, "allows(0, 4 0 2)", x.allows(0, w(4, 0, 2)), 0);
    due(5, "allows(0, 4 1 3)", x.allows(0, w(4, 1, 3)), 1);
    x.cut(1, 55);
    // the row is 2 0 1, so 3 is gone from the last place
    due(5, "told(0, 4) without 3", x.told(0, 4), 6);
    runOfTable();
  }

  private static void runOfTable() {
    TableChoices x = names(4, 4, 4);
    x.table(3, w(1, 2, 0));
    x.tuple(0, w(0, 7, 3));
    x.tuple(0, w(2, 1, 2));
    x.tuple(0, w(3, 3, 5));
    due(15, "run() of a table", x.run(), 4);
    due(15, "domain(1), the first place", x.domain(1), 5);
    due(15, "domain(2), the starred place", x.domain(2), 15);
    due(15, "domain(0), the last place", x.domain(0), 12);
    x.cut(0, 4);
    due(15, "run() behind a cut", x.run(), 4);
    due(15, "domain(2)", x.domain(2), 2);
    due(23, "count() of a table", x.count(), 1);
    due(24, "next(NONE)", x.next(NONE), w(2, 2, 1));
  }

  private static void machine() {
    TableChoices x = names(2, 2);
    due(6, "ends -1", x.machine(2, w(0, 1), -1, 5), BAD);
    due(6, "ends 64", x.machine(2, w(0, 1), 64, 5), BAD);
    due(6, "most -1", x.machine(2, w(0, 1), 1, -1), BAD);
    due(6, "most 1001", x.machine(2, w(0, 1), 1, 1001), BAD);
    due(6, "ends MIN", x.machine(2, w(0, 1), MIN, 5), BAD);
    due(6, "most MAX", x.machine(2, w(0, 1), 1, MAX), BAD);
    due(6, "of(1)", x.of(1), 0);
    due(6, "ends 63, most 1000", x.machine(2, w(0, 1), 63, 1000), 0);
    due(6, "ends 0, most 0", x.machine(2, w(0, 1), 0, 0), 1);
    due(6, "told(0, 0)", x.told(0, 0), 1);
    due(6, "told(0, 3)", x.told(0, 3), 0);
    due(6, "allows without steps", x.allows(0, 0), 0);
    x.step(1, 0, 0, 0, 0);
    due(6, "allows without ends", x.allows(1, 0), 0);
  }

  private static void step() {
    TableChoices x = names(6, 6);
    x.machine(2, w(0, 1), 32, 150);
    x.table(1, 0);
    due(7, "step(0, 0, 5, 4, 100)", x.step(0, 0, 5, 4, 100), 1);
    due(7, "step(0, 4, 0, 5, 50)", x.step(0, 4, 0, 5, 50), 2);
    due(7, "step(0, 4, 1, 5, 51)", x.step(0, 4, 1, 5, 51), 3);
    due(7, "step(0, 4, 2, 4, 0)", x.step(0, 4, 2, 4, 0), 4);
    due(7, "step(1, ..), no machine", x.step(1, 0, 0, 0, 0), BAD);
    due(7, "step(2, ..), none", x.step(2, 0, 0, 0, 0), BAD);
    due(7, "step(-1, ..)", x.step(-1, 0, 0, 0, 0), BAD);
    int[] bad = {-1, 6, MIN, MAX};
    for (int b : bad) {
      due(7, "from " + b, x.step(0, b, 0, 0, 0), BAD);
      due(7, "value " + b, x.step(0, 0, b, 0, 0), BAD);
      due(7, "to " + b, x.step(0, 0, 0, b, 0), BAD);
    }
    due(7, "cost -1", x.step(0, 0, 0, 0, -1), BAD);
    due(7, "cost 101", x.step(0, 0, 0, 0, 101), BAD);
    due(7, "told(0, 3)", x.told(0, 3), 4);
    due(7, "allows, at most", x.allows(0, w(5, 0)), 1);
    due(7, "allows, over most", x.allows(0, w(5, 1)), 0);
    due(7, "allows, not to an end", x.allows(0, w(5, 2)), 0);
    due(7, "step, a cheaper way for the same word", x.step(0, 4, 1, 5, 0), 5);
    due(7, "allows by the cheaper way", x.allows(0, w(5, 1)), 1);
    due(7, "step, a second way for the same word", x.step(0, 4, 0, 5, 1), 6);
    due(7, "told(0, 4): words and not ways", x.told(0, 4), 2);
    for (int i = 7; i <= 30; i++) due(7, "step", x.step(0, i % 6, i % 5, 3, 0), i);
    due(7, "step, one too many", x.step(0, 0, 0, 0, 0), FULL);
    due(7, "step, BAD ahead of FULL", x.step(0, 0, 0, 0, 101), BAD);
    due(7, "told(0, 3)", x.told(0, 3), 30);
    manyWays();
  }

  /** The dear way to a state must not hide the cheap one, nor the other way round, whichever came first. */
  private static void manyWays() {
    TableChoices x = names(2, 2, 2);
    x.machine(3, w(2, 1, 0), 1, 3);
    x.step(0, 0, 1, 1, 2);
    x.step(0, 0, 1, 2, 1);
    x.step(0, 1, 0, 0, 0);
    x.step(0, 2, 0, 0, 3);
    x.step(0, 0, 0, 0, 1);
    // 1 0 0 by state 1: 2 + 0 + 1; 0 1 0: 1 + 2 + 0; 0 0 0: 3
    due(7, "told(0, 4)", x.told(0, 4), 3);
    due(7, "allows(0, 1 0 0)", x.allows(0, w(1, 0, 0)), 1);
    due(7, "allows(0, 0 0 1)", x.allows(0, w(0, 0, 1)), 0);
    due(7, "run()", x.run(), 1);
    due(7, "domain(0), the last place", x.domain(0), 1);
    due(7, "domain(2), the first place", x.domain(2), 3);
    TableChoices y = names(6, 6, 6, 6, 6, 6);
    y.machine(6, w(5, 4, 3, 2, 1, 0), 32, 600);
    due(7, "told(0, 4) without steps", y.told(0, 4), 0);
    for (int i = 0; i < 5; i++) y.step(0, i, i, i + 1, 100);
    y.step(0, 5, 5, 5, 100);
    due(7, "told(0, 4), six steps at the most cost", y.told(0, 4), 1);
    due(22, "least(0)", y.least(0), 600);
    due(7, "run() of six places", y.run(), 30);
    due(24, "next(NONE)", y.next(NONE), w(5, 4, 3, 2, 1, 0));
  }

  private static void element() {
    TableChoices x = names(6, 6, 6, 6);
    due(8, "element(1, 0)", x.element(1, 0), BAD);
    due(8, "element(2, 0 1)", x.element(2, w(0, 1)), BAD);
    due(8, "element(3, 3 1 0)", x.element(3, w(3, 1, 0)), 0);
    due(8, "element(4, 0 1 2 3)", x.element(4, w(0, 1, 2, 3)), 1);
    due(8, "told(1, 0)", x.told(1, 0), 2);
    due(8, "allows(0, 0 4 4)", x.allows(0, w(0, 4, 4)), 1);
    due(8, "allows(0, 0 4 3)", x.allows(0, w(0, 4, 3)), 0);
    due(8, "allows(0, 1 4 4)", x.allows(0, w(1, 4, 4)), 0);
    due(8, "allows(1, 1 5 0 5)", x.allows(1, w(1, 5, 0, 5)), 1);
    due(8, "allows(1, 0 5 0 5)", x.allows(1, w(0, 5, 0, 5)), 0);
    due(8, "allows(1, 2 5 5 5)", x.allows(1, w(2, 5, 5, 5)), 0);
    // i is 0 or 1, two free values then: 2 * 6 * 6
    due(8, "told(1, 4)", x.told(1, 4), 72);
    x.undo();
    due(8, "run()", x.run(), 5);
    due(8, "domain(3)", x.domain(3), 1);
  }

  private static void order() {
    TableChoices x = names(6, 6, 6, 6, 6, 6);
    due(9, "order(1, 0)", x.order(1, 0, true), BAD);
    due(9, "order(3, 0 1 2)", x.order(3, w(0, 1, 2), false), BAD);
    due(9, "order(5, ..)", x.order(5, w(0, 1, 2, 3, 4), false), BAD);
    due(9, "order(2, 1 0, strict)", x.order(2, w(1, 0), true), 0);
    due(9, "order(4, .., strict)", x.order(4, w(0, 1, 2, 3), true), 1);
    due(9, "order(6, .., not strict)", x.order(6, w(0, 1, 2, 3, 4, 5), false), 2);
    due(9, "told(2, 0)", x.told(2, 0), 3);
    due(9, "allows(0, 0 1)", x.allows(0, w(0, 1)), 1);
    due(9, "allows(0, 1 1)", x.allows(0, w(1, 1)), 0);
    due(9, "allows(0, 2 1)", x.allows(0, w(2, 1)), 0);
    due(9, "allows(1, 1 5 2 0)", x.allows(1, w(1, 5, 2, 0)), 1);
    due(9, "allows(1, 2 0 1 5)", x.allows(1, w(2, 0, 1, 5)), 0);
    due(9, "allows(1, 3 2 3 4)", x.allows(1, w(3, 2, 3, 4)), 1);
    due(9, "allows(1, 3 4 3 2)", x.allows(1, w(3, 4, 3, 2)), 0);
    due(9, "allows(1, 3 4 3 4)", x.allows(1, w(3, 4, 3, 4)), 0);
    due(9, "allows(2, 5 4 3 5 4 3)", x.allows(2, w(5, 4, 3, 5, 4, 3)), 1);
    due(9, "allows(2, 5 4 3 5 4 2)", x.allows(2, w(5, 4, 3, 5, 4, 2)), 0);
    due(9, "allows(2, 5 4 2 5 4 3)", x.allows(2, w(5, 4, 2, 5, 4, 3)), 1);
    due(9, "allows(2, 5 5 5 5 5 5)", x.allows(2, w(5, 5, 5, 5, 5, 5)), 1);
    due(9, "allows(2, 0 5 5 1 0 0)", x.allows(2, w(0, 5, 5, 1, 0, 0)), 1);
    due(9, "told(0, 4)", x.told(0, 4), 15);
    due(9, "told(1, 4)", x.told(1, 4), 36 * 35 / 2);
    due(9, "told(2, 4)", x.told(2, 4), 216 * 217 / 2);
  }

  private static void sum() {
    TableChoices x = names(6, 6);
    due(10, "low -1", x.sum(2, w(0, 1), -1, 5), BAD);
    due(10, "high 31", x.sum(2, w(0, 1), 0, 31), BAD);
    due(10, "low above high", x.sum(2, w(0, 1), 5, 4), BAD);
    due(10, "low 31, high 31", x.sum(2, w(0, 1), 31, 31), BAD);
    due(10, "high MAX", x.sum(2, w(0, 1), 0, MAX), BAD);
    due(10, "low MIN", x.sum(2, w(0, 1), MIN, 3), BAD);
    due(10, "0 .. 30", x.sum(2, w(0, 1), 0, 30), 0);
    due(10, "2 .. 2", x.sum(2, w(0, 1), 2, 2), 1);
    due(10, "30 .. 30", x.sum(2, w(0, 1), 30, 30), 2);
    due(10, "told(1, 0)", x.told(1, 0), 4);
    due(10, "told(0, 4)", x.told(0, 4), 36);
    due(10, "told(1, 4)", x.told(1, 4), 3);
    due(10, "told(2, 4)", x.told(2, 4), 0);
    due(10, "allows(1, 2 0)", x.allows(1, w(2, 0)), 1);
    due(10, "allows(1, 1 0)", x.allows(1, w(1, 0)), 0);
    due(10, "allows(1, 1 2)", x.allows(1, w(1, 2)), 0);
    TableChoices y = names(6, 6, 6, 6, 6, 6);
    y.sum(6, w(0, 1, 2, 3, 4, 5), 30, 30);
    due(10, "run(): all fives", y.run(), 30);
    due(10, "next(NONE)", y.next(NONE), w(5, 5, 5, 5, 5, 5));
  }

  private static void tally() {
    TableChoices x = names(3, 3, 3);
    int row = w(0, 1, 2);
    due(11, "value -1", x.tally(3, row, -1, 0, 1), BAD);
    due(11, "value 6", x.tally(3, row, 6, 0, 1), BAD);
    due(11, "low -1", x.tally(3, row, 0, -1, 1), BAD);
    due(11, "high 7", x.tally(3, row, 0, 0, 7), BAD);
    due(11, "low above high", x.tally(3, row, 0, 2, 1), BAD);
    due(11, "MIN, MAX", x.tally(3, row, 0, MIN, MAX), BAD);
    due(11, "0 .. 6 of 5", x.tally(3, row, 5, 0, 6), 0);
    due(11, "1 .. 2 of 2", x.tally(3, row, 2, 1, 2), 1);
    due(11, "6 .. 6 of 0, more than places", x.tally(3, row, 0, 6, 6), 2);
    due(11, "told(1, 0)", x.told(1, 0), 5);
    due(11, "told(0, 4)", x.told(0, 4), 27);
    due(11, "told(1, 4)", x.told(1, 4), 12 + 6);
    due(11, "told(2, 4)", x.told(2, 4), 0);
    due(11, "allows(1, 2 2 2)", x.allows(1, w(2, 2, 2)), 0);
    due(11, "allows(1, 2 0 2)", x.allows(1, w(2, 0, 2)), 1);
    due(11, "allows(1, 1 0 1)", x.allows(1, w(1, 0, 1)), 0);
    due(11, "run()", x.run(), -102);
  }

  private static void first() {
    TableChoices x = names(3, 3, 3);
    int row = w(2, 1, 0);
    due(12, "a is b", x.first(3, row, 1, 1), BAD);
    due(12, "a -1", x.first(3, row, -1, 1), BAD);
    due(12, "a 6", x.first(3, row, 6, 1), BAD);
    due(12, "b -1", x.first(3, row, 1, -1), BAD);
    due(12, "b 6", x.first(3, row, 1, 6), BAD);
    due(12, "first(3, 2 1 0, 1, 2)", x.first(3, row, 1, 2), 0);
    due(12, "told(0, 0)", x.told(0, 0), 6);
    due(12, "allows(0, 0 0 0)", x.allows(0, w(0, 0, 0)), 1);
    due(12, "allows(0, 1 2 2)", x.allows(0, w(1, 2, 2)), 1);
    due(12, "allows(0, 0 2 1)", x.allows(0, w(0, 2, 1)), 0);
    due(12, "allows(0, 2 1 2)", x.allows(0, w(2, 1, 2)), 0);
    due(12, "allows(0, 1 0 2)", x.allows(0, w(1, 0, 2)), 1);
    // without 2: 8; 1 at the first place: 9 - 4 more with a 2; 0 1 2: 1
    due(12, "told(0, 4)", x.told(0, 4), 8 + 5 + 1);
    due(12, "run()", x.run(), 1);
    due(12, "domain(2), the first place", x.domain(2), 3);
    due(12, "first(1, 0, 5, 0)", x.first(1, 0, 5, 0), 1);
  }

  private static void constraintsFull() {
    TableChoices x = names(2, 2, 2);
    int row = w(0, 1, 2);
    for (int i = 0; i < 10; i++) due(4, "table(3, row)", x.table(3, row), i);
    due(4, "table", x.table(3, row), FULL);
    due(6, "machine", x.machine(3, row, 1, 1), FULL);
    due(8, "element", x.element(3, row), FULL);
    due(9, "order", x.order(2, w(0, 1), true), FULL);
    due(10, "sum", x.sum(3, row, 0, 1), FULL);
    due(11, "tally", x.tally(3, row, 0, 0, 1), FULL);
    due(12, "first", x.first(3, row, 0, 1), FULL);
    due(4, "table, BAD ahead of FULL", x.table(3, 0), BAD);
    due(6, "machine, BAD ahead of FULL", x.machine(3, row, 64, 1), BAD);
    due(8, "element, BAD ahead of FULL", x.element(2, w(0, 1)), BAD);
    due(9, "order, BAD ahead of FULL", x.order(3, row, true), BAD);
    due(10, "sum, BAD ahead of FULL", x.sum(3, row, 1, 0), BAD);
    due(11, "tally, BAD ahead of FULL", x.tally(3, row, 6, 0, 1), BAD);
    due(12, "first, BAD ahead of FULL", x.first(3, row, 1, 1), BAD);
    due(25, "of(1)", x.of(1), 10);
    due(13, "undo()", x.undo(), 9);
    due(4, "table", x.table(3, row), 9);
  }

  private static void undo() {
    TableChoices x = names(3, 3);
    due(13, "undo() of none", x.undo(), NONE);
    x.sum(1, 0, 0, 1);
    x.sum(1, 1, 2, 2);
    x.run();
    due(13, "undo()", x.undo(), 1);
    due(13, "domain(1) stays", x.domain(1), 4);
    due(13, "why(1, 0, 0) stays", x.why(1, 0, 0), 1);
    due(13, "why(1, 0, 1) stays", x.why(1, 0, 1), 1);
    due(13, "told(1, 0)", x.told(1, 0), BAD);
    due(13, "of(1)", x.of(1), 1);
    x.mark();
    due(13, "undo() behind a mark", x.undo(), 0);
    due(13, "back()", x.back(), 0);
    due(13, "of(1): marks keep no constraints", x.of(1), 0);
    due(13, "undo()", x.undo(), NONE);
  }

  private static void cut() {
    TableChoices x = names(6, 3);
    due(14, "cut(2, 1)", x.cut(2, 1), BAD);
    due(14, "cut(-1, 1)", x.cut(-1, 1), BAD);
    due(14, "cut(MAX, 1)", x.cut(MAX, 1), BAD);
    due(14, "cut(0, 64)", x.cut(0, 64), BAD);
    due(14, "cut(0, -1)", x.cut(0, -1), BAD);
    due(14, "cut(0, 0)", x.cut(0, 0), EMPTY);
    due(14, "cut(1, 56)", x.cut(1, 56), EMPTY);
    due(14, "domain(1)", x.domain(1), 7);
    due(14, "cut(0, 63)", x.cut(0, 63), 0);
    due(14, "cut(0, 42)", x.cut(0, 42), 3);
    due(14, "domain(0)", x.domain(0), 42);
    due(14, "cut(0, 21)", x.cut(0, 21), EMPTY);
    due(14, "cut(0, 39)", x.cut(0, 39), 1);
    due(14, "domain(0)", x.domain(0), 34);
    due(14, "why(0, 3, 0)", x.why(0, 3, 0), 10);
    due(14, "why(0, 3, 1)", x.why(0, 3, 1), 0);
    due(14, "cut(1, 57): what was never there stays so", x.cut(1, 57), 2);
    due(14, "why(1, 3, 0)", x.why(1, 3, 0), 11);
    x.sum(1, 0, 5, 5);
    x.run();
    due(14, "cut(0, 32)", x.cut(0, 32), 0);
    due(14, "why(0, 1, 0): it went by the run", x.why(0, 1, 0), 0);
    due(14, "why(0, 1, 1)", x.why(0, 1, 1), 1);
  }

  private static void run() {
    TableChoices x = names(4, 4);
    x.sum(2, w(0, 1), 5, 6);
    due(15, "run()", x.run(), 4);
    due(15, "domain(0)", x.domain(0), 12);
    due(15, "domain(1)", x.domain(1), 12);
    due(15, "of(3)", x.of(3), 2);
    due(15, "run() again", x.run(), 0);
    due(15, "of(3)", x.of(3), 1);
    due(15, "why(0, 0, 1): of the run in which it went", x.why(0, 0, 1), 1);
  }

  /** A chain that needs a round for each link, as the constraints stand in the wrong order. */
  private static void runRounds() {
    TableChoices x = names(4, 4, 4, 4);
    x.order(2, w(2, 3), true);
    x.order(2, w(1, 2), true);
    x.order(2, w(0, 1), true);
    due(15, "run()", x.run(), 12);
    due(15, "of(3)", x.of(3), 4);
    due(15, "domain(0)", x.domain(0), 1);
    due(15, "domain(3)", x.domain(3), 8);
    due(15, "why(3, 0, 0)", x.why(3, 0, 0), 0);
    due(15, "why(3, 0, 1)", x.why(3, 0, 1), 1);
    due(15, "why(3, 1, 1)", x.why(3, 1, 1), 2);
    due(15, "why(3, 2, 1)", x.why(3, 2, 1), 3);
    due(15, "why(0, 1, 0), at once by what went before in the round", x.why(0, 1, 0), 2);
    due(15, "why(0, 1, 1)", x.why(0, 1, 1), 1);
    due(15, "why(2, 3, 0)", x.why(2, 3, 0), 0);
    due(15, "why(2, 0, 0)", x.why(2, 0, 0), 1);
  }

  private static void runFails() {
    TableChoices x = names(3, 3);
    x.sum(1, 0, 1, 9);
    x.sum(2, w(0, 1), 0, 2);
    x.tally(2, w(0, 1), 1, 1, 1);
    x.tally(2, w(0, 1), 2, 2, 2);
    due(15, "run()", x.run(), -103);
    due(15, "of(3)", x.of(3), 1);
    due(15, "domain(0): what went before stays so", x.domain(0), 6);
    due(15, "domain(1)", x.domain(1), 3);
    due(15, "why(1, 2, 0)", x.why(1, 2, 0), 1);
    due(15, "why(1, 2, 1)", x.why(1, 2, 1), 1);
    due(15, "run() again", x.run(), -103);
    TableChoices y = names(2, 2);
    y.order(2, w(0, 1), true);
    y.table(1, 0);
    y.tuple(1, 1);
    // 0 0 is left of name 0 in the first round, so 1 can not be kept there
    due(15, "run()", y.run(), -101);
    TableChoices z = names(3, 3, 3);
    z.order(2, w(0, 1), true);
    z.order(2, w(1, 2), true);
    z.order(2, w(2, 0), true);
    due(15, "run() of a ring", z.run(), -102);
    due(15, "of(3)", z.of(3), 1);
    due(15, "count()", z.count(), 0);
    TableChoices late = names(6, 6);
    late.order(2, w(0, 1), true);
    late.order(2, w(1, 0), true);
    due(15, "run() that fails in a later round", late.run(), -101);
    due(15, "of(3)", late.of(3), 2);
  }

  private static void mark() {
    TableChoices x = names(3);
    for (int i = 1; i <= 8; i++) due(16, "mark()", x.mark(), i);
    due(16, "mark(), a ninth", x.mark(), FULL);
    due(16, "of(2)", x.of(2), 8);
    due(16, "back()", x.back(), 7);
    due(16, "mark()", x.mark(), 8);
    due(16, "mark() without names", new TableChoices().mark(), 1);
  }

  private static void back() {
    TableChoices x = names(6, 6);
    due(17, "back()", x.back(), NONE);
    x.sum(2, w(0, 1), 0, 4);
    x.cut(0, 47);
    x.mark();
    x.run();
    x.mark();
    x.cut(1, 6);
    x.run();
    due(17, "domain(0)", x.domain(0), 15);
    due(17, "domain(1)", x.domain(1), 6);
    due(17, "back() over a cut", x.back(), 1);
    due(17, "domain(1)", x.domain(1), 31);
    due(17, "why(1, 5, 0)", x.why(1, 5, 0), 0);
    due(17, "why(1, 5, 1)", x.why(1, 5, 1), 1);
    due(17, "why(1, 0, 0)", x.why(1, 0, 0), NONE);
    due(17, "back() over a run", x.back(), 0);
    due(17, "domain(0)", x.domain(0), 47);
    due(17, "domain(1)", x.domain(1), 63);
    due(17, "why(0, 4, 0)", x.why(0, 4, 0), 10);
    due(17, "why(1, 5, 0)", x.why(1, 5, 0), NONE);
    due(17, "why(1, 5, 1)", x.why(1, 5, 1), 0);
    due(17, "of(3): the latest run is still the latest", x.of(3), 1);
    due(17, "back()", x.back(), NONE);
    due(17, "run() once more: both fives", x.run(), 2);
  }

  private static void domain() {
    TableChoices x = names(5);
    due(18, "domain(0)", x.domain(0), 31);
    for (int bad : new int[] {1, -1, 5, 6, MIN, MAX}) due(18, "domain(" + bad + ")", x.domain(bad), BAD);
  }

  private static void why() {
    TableChoices x = names(4, 6);
    due(19, "why(0, 3, 0)", x.why(0, 3, 0), NONE);
    due(19, "why(0, 3, 1)", x.why(0, 3, 1), 0);
    due(19, "why(0, 4, 0)", x.why(0, 4, 0), 11);
    due(19, "why(0, 4, 1)", x.why(0, 4, 1), 0);
    due(19, "why(0, 5, 0)", x.why(0, 5, 0), 11);
    due(19, "why(1, 5, 0)", x.why(1, 5, 0), NONE);
    due(19, "why(0, 6, 0)", x.why(0, 6, 0), BAD);
    due(19, "why(0, -1, 0)", x.why(0, -1, 0), BAD);
    due(19, "why(2, 0, 0)", x.why(2, 0, 0), BAD);
    due(19, "why(-1, 0, 0)", x.why(-1, 0, 0), BAD);
    due(19, "why(0, 0, 2)", x.why(0, 0, 2), BAD);
    due(19, "why(0, 0, -1)", x.why(0, 0, -1), BAD);
    due(19, "why(MIN, MAX, MIN)", x.why(MIN, MAX, MIN), BAD);
  }

  private static void allows() {
    TableChoices x = names(2, 2);
    x.sum(2, w(0, 1), 6, 10);
    due(20, "allows(0, 5 1): domains do not matter", x.allows(0, w(5, 1)), 1);
    due(20, "allows(0, 1 1)", x.allows(0, w(1, 1)), 0);
    due(20, "allows(0, 6 1)", x.allows(0, w(6, 1)), BAD);
    due(20, "allows(0, 7 1)", x.allows(0, w(7, 1)), BAD);
    due(20, "allows(0, a third place)", x.allows(0, w(5, 5, 1)), BAD);
    due(20, "allows(0, -1)", x.allows(0, -1), BAD);
    due(20, "allows(0, MIN)", x.allows(0, MIN), BAD);
    due(20, "allows(1, 0)", x.allows(1, 0), BAD);
    due(20, "allows(-1, 0)", x.allows(-1, 0), BAD);
    due(20, "allows(10, 0)", x.allows(10, 0), BAD);
    due(20, "run()", x.run(), -100);
  }

  private static void told() {
    TableChoices x = names(2, 3, 4);
    x.tally(2, w(2, 0), 1, 1, 2);
    due(21, "told(0, 0)", x.told(0, 0), 5);
    due(21, "told(0, 1)", x.told(0, 1), 2);
    due(21, "told(0, 2)", x.told(0, 2), w(2, 0));
    due(21, "told(0, 3)", x.told(0, 3), 0);
    due(21, "told(0, 4)", x.told(0, 4), 5);
    due(21, "told(0, 5)", x.told(0, 5), BAD);
    due(21, "told(0, -1)", x.told(0, -1), BAD);
    due(21, "told(1, 0)", x.told(1, 0), BAD);
    due(21, "told(-1, 0)", x.told(-1, 0), BAD);
    due(21, "told(MAX, MAX)", x.told(MAX, MAX), BAD);
    x.cut(0, 1);
    due(21, "told(0, 4) behind a cut", x.told(0, 4), 1);
    due(21, "domain(2): telling takes nothing", x.domain(2), 15);
  }

  private static void least() {
    TableChoices x = names(2, 2);
    x.machine(2, w(0, 1), 1, 10);
    x.table(1, 0);
    due(22, "least(0) without steps", x.least(0), NONE);
    x.step(0, 0, 0, 0, 4);
    x.step(0, 0, 1, 0, 6);
    due(22, "least(0)", x.least(0), 8);
    x.cut(0, 2);
    due(22, "least(0), just most", x.least(0), 10);
    x.cut(1, 2);
    due(22, "least(0), over most", x.least(0), NONE);
    due(22, "least(1), no machine", x.least(1), BAD);
    due(22, "least(2)", x.least(2), BAD);
    due(22, "least(-1)", x.least(-1), BAD);
    x.step(0, 0, 1, 0, 0);
    due(22, "least(0), for nothing", x.least(0), 0);
  }

  private static void count() {
    due(23, "count() without names", new TableChoices().count(), 1);
    TableChoices x = names(6, 6, 6, 6, 6, 6);
    due(23, "count() without constraints", x.count(), 46656);
    x.order(2, w(4, 1), true);
    due(23, "count() of one constraint, names free around it", x.count(), 15 * 1296);
    x.sum(3, w(5, 0, 3), 1, 1);
    due(23, "count() of two", x.count(), 15 * 3 * 6);
    x.cut(2, 5);
    due(23, "count() behind a cut", x.count(), 15 * 3 * 2);
    x.table(1, 2);
    due(23, "count() with a table without tuples", x.count(), 0);
    due(23, "domain(0): counting takes nothing", x.domain(0), 63);
  }

  private static void next() {
    TableChoices none = new TableChoices();
    due(24, "next(NONE) without names", none.next(NONE), 0);
    due(24, "next(0) without names", none.next(0), NONE);
    due(24, "next(1) without names", none.next(1), BAD);
    TableChoices x = names(3, 2, 2);
    x.tally(3, w(2, 0, 1), 1, 1, 1);
    // in order: 0 0 1, 0 1 0, 1 0 0, 2 0 1, 2 1 0
    due(24, "next(NONE)", x.next(NONE), w(0, 0, 1));
    due(24, "next(0 0 1)", x.next(w(0, 0, 1)), w(0, 1, 0));
    due(24, "next(0 1 0)", x.next(w(0, 1, 0)), w(1, 0, 0));
    due(24, "next(1 0 0)", x.next(w(1, 0, 0)), w(2, 0, 1));
    due(24, "next(2 0 1)", x.next(w(2, 0, 1)), w(2, 1, 0));
    due(24, "next(2 1 0)", x.next(w(2, 1, 0)), NONE);
    due(24, "next(0 0 0), no solution", x.next(0), w(0, 0, 1));
    due(24, "next(0 5 5), not open", x.next(w(0, 5, 5)), w(1, 0, 0));
    due(24, "next(0 0 5), not open", x.next(w(0, 0, 5)), w(0, 1, 0));
    due(24, "next(5 5 5)", x.next(w(5, 5, 5)), NONE);
    due(24, "next(6 0 0)", x.next(w(6, 0, 0)), BAD);
    due(24, "next(0 0 7)", x.next(w(0, 0, 7)), BAD);
    due(24, "next(a fourth place)", x.next(1 << 9), BAD);
    due(24, "next(-2)", x.next(-2), BAD);
    due(24, "next(MIN)", x.next(MIN), BAD);
    x.cut(0, 2);
    due(24, "next(NONE) behind a cut", x.next(NONE), w(1, 0, 0));
    x.table(1, 0);
    due(24, "next(NONE) of no solution", x.next(NONE), NONE);
    walkAll();
  }

  /** Going on by next comes to as many as count tells, each behind the one before. */
  private static void walkAll() {
    TableChoices x = names(4, 4, 4, 4);
    x.order(4, w(3, 1, 0, 2), false);
    x.sum(3, w(2, 0, 3), 3, 5);
    int steps = 0;
    for (int word = x.next(NONE); word != NONE && steps < 300; word = x.next(word)) steps++;
    due(24, "steps of next", steps, x.count());
  }

  private static void of() {
    TableChoices x = names(3, 5);
    due(25, "of(0)", x.of(0), 2);
    due(25, "of(1)", x.of(1), 0);
    x.sum(2, w(0, 1), 0, 3);
    x.sum(1, 0, 0, 3);
    due(25, "of(1)", x.of(1), 2);
    x.mark();
    due(25, "of(2)", x.of(2), 1);
    due(25, "of(3) before a run", x.of(3), 0);
    due(25, "of(4)", x.of(4), 8);
    x.run();
    due(25, "of(3)", x.of(3), 2);
    due(25, "of(4)", x.of(4), 7);
    for (int bad : new int[] {-1, 5, MIN, MAX}) due(25, "of(" + bad + ")", x.of(bad), BAD);
  }
}
