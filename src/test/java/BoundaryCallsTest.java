/**
 * The bounds of every call's numbers: the last one that is taken and the first one that is refused, on both sides;
 * full and empty; which refusal comes first; and that a refused call changes nothing.
 */
public final class BoundaryCallsTest extends Checks {
  /** Numbers that are far out, among them such as look good once three times them, or a shift by them, wraps around. */
  private static final int[] FAR_OUT = {
    MIN, MIN + 1, -1000, 32, 33, 34, 64, 255, 256, 257, 1 << 16, 1 << 29 | 1, 1 << 30 | 1, 1 << 30 | 2, 715827883, 1431655766, MAX - 1, MAX
  };
  private static final String[] KINDS = {"table", "machine", "element", "order", "sum", "tally", "first"};
  private static final int[] FEWEST = {1, 1, 3, 2, 1, 1, 1};

  public static void main(String[] args) {
    newObject();
    clear();
    name();
    howManyNamesOfARow();
    bitsAboveARow();
    namesOfARow();
    constraintsFull();
    tuple();
    machine();
    step();
    sumBounds();
    tallyBounds();
    firstValues();
    undo();
    cut();
    markAndBack();
    domain();
    why();
    allows();
    told();
    least();
    next();
    of();
    end("all calls keep their bounds");
  }

  /** One of the seven calls that make a constraint, with numbers that are good behind the row. */
  private static int make(TableChoices x, int kind, int many, int row) {
    switch (kind) {
      case 0: return x.table(many, row);
      case 1: return x.machine(many, row, 1, 1);
      case 2: return x.element(many, row);
      case 3: return x.order(many, row, false);
      case 4: return x.sum(many, row, 0, 30);
      case 5: return x.tally(many, row, 0, 0, 6);
      default: return x.first(many, row, 0, 1);
    }
  }

  private static boolean takes(int kind, int many) {
    return many >= FEWEST[kind] && many <= 6 && (kind != 3 || many % 2 == 0);
  }

  private static void badRow(String sentence, Make state, int kind, int many, int row) {
    bad(sentence, state, KINDS[kind] + "(" + many + ", " + Integer.toOctalString(row) + " octal, ..)", x -> make(x, kind, many, row));
  }

  private static void newObject() {
    String s = "1: no NAMES, CONSTRAINTS, MARKS";
    for (int what = 0; what < 5; what++) due(s, "of(" + what + ")", States.nothing().of(what), 0);
    for (int kind = 0; kind < 7; kind++) {
      for (int many = -1; many < 8; many++) badRow(s, States::nothing, kind, many, rowOf(many));
    }
    bad(s, States::nothing, "tuple(0, 0)", x -> x.tuple(0, 0));
    bad(s, States::nothing, "step(0, 0, 0, 0, 0)", x -> x.step(0, 0, 0, 0, 0));
    bad(s, States::nothing, "cut(0, 1)", x -> x.cut(0, 1));
    bad(s, States::nothing, "domain(0)", x -> x.domain(0));
    bad(s, States::nothing, "why(0, 0, 0)", x -> x.why(0, 0, 0));
    bad(s, States::nothing, "allows(0, 0)", x -> x.allows(0, 0));
    bad(s, States::nothing, "told(0, 0)", x -> x.told(0, 0));
    bad(s, States::nothing, "least(0)", x -> x.least(0));
    changesNothing(s, States::nothing, "undo()", x -> x.undo(), NONE);
    changesNothing(s, States::nothing, "back()", x -> x.back(), NONE);
    changesNothing(s, States::nothing, "clear()", x -> x.clear(), 0);
    TableChoices x = new TableChoices();
    TableChoices other = new TableChoices();
    x.name(3);
    x.mark();
    due(s, "of(0) of another object", other.of(0), 0);
    due(s, "of(2) of another object", other.of(2), 0);
  }

  private static void clear() {
    String s = "2: all as at first: how many CONSTRAINTS there were";
    for (Make state : States.all()) {
      TableChoices x = state.make();
      due(s, "clear()", x.clear(), state.make().of(1));
      same(s, "what there is after clear()", look(x), look(new TableChoices()));
      TableChoices again = state.make();
      again.clear();
      TableChoices fresh = new TableChoices();
      for (int values = 1; values <= 6; values++) due(s, "name(" + values + ")", again.name(values), fresh.name(values));
      same(s, "what there is with new names after clear()", look(again), look(fresh));
    }
    TableChoices x = States.fullConstraints();
    due(s, "clear() of ten", x.clear(), 10);
    due(s, "clear() again", x.clear(), 0);
    TableChoices y = States.fullTuples();
    y.clear();
    y.name(6);
    y.table(1, 0);
    due(s, "told(0, 3), the tuples went, too", y.told(0, 3), 0);
    due(s, "allows(0, 0)", y.allows(0, 0), 0);
    TableChoices z = States.fullMarks();
    z.clear();
    due(s, "name(1), it is no longer KEPT", z.name(1), 0);
    for (int i = 1; i <= 8; i++) due(s, "mark()", z.mark(), i);
    due(s, "mark()", z.mark(), FULL);
  }

  private static void name() {
    String s = "3: values 1 .. 6";
    for (int values = 1; values <= 6; values++) {
      TableChoices x = new TableChoices();
      due(s, "name(" + values + ")", x.name(values), 0);
      due(s, "domain(0)", x.domain(0), (1 << values) - 1);
      for (int v = 0; v < 6; v++) due(s, "why(0, " + v + ", 0)", x.why(0, v, 0), v < values ? NONE : 11);
    }
    for (Make state : States.all()) {
      for (int values : new int[] {0, 7, -1, 8, 38}) bad(s, state, "name(" + values + ")", x -> x.name(values));
    }
    for (int values : FAR_OUT) bad(s, States::oneName, "name(" + values + ")", x -> x.name(values));
    s = "3: KEPT: there is a MARK; FULL; 6 at most";
    TableChoices x = new TableChoices();
    for (int i = 0; i < 6; i++) due(s, "name(" + (6 - i) + ")", x.name(6 - i), i);
    changesNothing(s, States::sixNames, "a seventh name", y -> y.name(1), FULL);
    changesNothing(s, States::fullNames, "a seventh name", y -> y.name(6), FULL);
    changesNothing(s, States::fullNamesAndMark, "a seventh name behind a mark", y -> y.name(6), KEPT);
    changesNothing(s, States::allKinds, "a name behind a mark", y -> y.name(1), KEPT);
    changesNothing(s, States::fullMarks, "a name behind eight marks", y -> y.name(1), KEPT);
    TableChoices y = names(1);
    y.mark();
    y.mark();
    y.back();
    due(s, "name(1), there is one mark still", y.name(1), KEPT);
    y.back();
    due(s, "name(1), there is none", y.name(1), 1);
  }

  private static void howManyNamesOfARow() {
    for (int kind = 0; kind < 7; kind++) {
      String s = (kind == 0 ? 4 : kind == 1 ? 6 : kind + 6) + ": how many NAMES a ROW has";
      for (int many = -2; many <= 12; many++) {
        if (!takes(kind, many)) {
          badRow(s, States::sixNames, kind, many, rowOf(many));
          badRow(s, States::sixNames, kind, many, 0);
          continue;
        }
        TableChoices x = States.sixNames();
        due(s, KINDS[kind] + " of " + many, make(x, kind, many, rowOf(many)), 0);
        due(s, "told(0, 0)", x.told(0, 0), kind);
        due(s, "told(0, 1)", x.told(0, 1), many);
        due(s, "told(0, 2)", x.told(0, 2), rowOf(many));
        due(s, "told(0, 3)", x.told(0, 3), 0);
      }
      for (int many : FAR_OUT) {
        badRow(s, States::sixNames, kind, many, 0);
        badRow(s, States::sixNames, kind, many, rowOf(6));
      }
    }
  }

  private static void bitsAboveARow() {
    for (int kind = 0; kind < 7; kind++) {
      for (int many = FEWEST[kind]; many <= 6; many++) {
        if (!takes(kind, many)) continue;
        for (int bit = 3 * many; bit < 32; bit++) {
          badRow("a ROW: all bits above 0", States::sixNames, kind, many, rowOf(many) | 1 << bit);
        }
        badRow("a ROW: all bits above 0", States::sixNames, kind, many, -1);
      }
    }
  }

  private static void namesOfARow() {
    for (int kind = 0; kind < 7; kind++) {
      for (int many = FEWEST[kind]; many <= 6; many++) {
        if (!takes(kind, many)) continue;
        for (int place = 0; place < many; place++) {
          for (int other = 0; other < place; other++) {
            badRow("a ROW: none twice", States::sixNames, kind, many, with(rowOf(many), place, other));
            badRow("a ROW: none twice", States::sixNames, kind, many, with(rowOf(many), other, place));
          }
          badRow("a ROW: 6 is no NAME", States::sixNames, kind, many, with(rowOf(many), place, 6));
          badRow("a ROW: 7 is no NAME", States::sixNames, kind, many, with(rowOf(many), place, 7));
          lastName(kind, many, place);
        }
      }
    }
  }

  /** With as many names as the row has, its last one is the last there is; a place that tells the next one is wrong. */
  private static void lastName(int kind, int many, int place) {
    Make state = () -> namesOfTwo(many);
    due("a ROW of NAMES that there are", KINDS[kind] + " of " + many, make(state.make(), kind, many, rowOf(many)), 0);
    int row = with(rowOf(many), place, many);
    badRow("a ROW of NAMES that there are", state, kind, many, row);
    if (many == 6) return;
    TableChoices x = state.make();
    x.name(1);
    due("a ROW of NAMES that there are now", KINDS[kind] + " of " + many, make(x, kind, many, row), 0);
    due("a ROW of NAMES that there are now", "told(0, 2)", x.told(0, 2), row);
  }

  private static TableChoices namesOfTwo(int many) {
    TableChoices x = new TableChoices();
    for (int i = 0; i < many; i++) x.name(2);
    return x;
  }

  private static void constraintsFull() {
    String s = "CONSTRAINTS, 10 at most: FULL";
    for (int kind = 0; kind < 7; kind++) {
      int k = kind;
      int many = kind == 3 ? 2 : 3;
      TableChoices x = names(2, 2, 2);
      for (int i = 0; i < 10; i++) due(s, KINDS[k] + ", number " + i, make(x, k, many, rowOf(many)), i);
      due(s, KINDS[k] + ", an eleventh", make(x, k, many, rowOf(many)), FULL);
      changesNothing(s, States::fullConstraints, KINDS[k], y -> make(y, k, many, rowOf(many)), FULL);
      badRow("BAD ahead of FULL", States::fullConstraints, k, many, 0);
      badRow("BAD ahead of FULL", States::fullConstraints, k, 0, 0);
      badRow("BAD ahead of FULL", States::fullConstraints, k, many, rowOf(many) | MIN);
      due(s, "undo()", x.undo(), 9);
      due(s, KINDS[k] + ", a tenth again", make(x, k, many, rowOf(many)), 9);
    }
    int row = rowOf(3);
    s = "BAD ahead of FULL";
    bad(s, States::fullConstraints, "machine, ends 64", x -> x.machine(3, row, 64, 1));
    bad(s, States::fullConstraints, "machine, most 1001", x -> x.machine(3, row, 1, 1001));
    bad(s, States::fullConstraints, "element of 2", x -> x.element(2, rowOf(2)));
    bad(s, States::fullConstraints, "order of 3", x -> x.order(3, row, true));
    bad(s, States::fullConstraints, "sum, low above high", x -> x.sum(3, row, 1, 0));
    bad(s, States::fullConstraints, "sum, high 31", x -> x.sum(3, row, 0, 31));
    bad(s, States::fullConstraints, "tally, value 6", x -> x.tally(3, row, 6, 0, 1));
    bad(s, States::fullConstraints, "tally, high 7", x -> x.tally(3, row, 0, 0, 7));
    bad(s, States::fullConstraints, "first, a is b", x -> x.first(3, row, 1, 1));
    bad(s, States::fullConstraints, "first, b 6", x -> x.first(3, row, 1, 6));
  }

  private static void tuple() {
    String s = "5: a TUPLE, told as a WORD: 0 .. 5, or 7 for any";
    for (int many = 1; many <= 6; many++) {
      int m = many;
      Make state = () -> oneConstraint(0, m);
      for (int place = 0; place < many; place++) {
        TableChoices x = state.make();
        for (int v = 0; v < 6; v++) due(s, "value " + v + " at " + place, x.tuple(0, with(0, place, v)), v + 1);
        due(s, "7 at " + place, x.tuple(0, with(0, place, 7)), 7);
        int six = with(0, place, 6);
        bad(s, state, "6 at " + place, y -> y.tuple(0, six));
        int sixAmongStars = with(each(m, 7), place, 6);
        bad(s, state, "6 at " + place + ", else 7", y -> y.tuple(0, sixAmongStars));
      }
      due(s, "7 at each of " + m, state.make().tuple(0, each(m, 7)), 1);
      due(s, "5 at each of " + m, state.make().tuple(0, each(m, 5)), 1);
      for (int bit = 3 * many; bit < 32; bit++) {
        int word = 1 << bit;
        bad("5: all bits above 0", state, "tuple(0, 1 << " + bit + ")", y -> y.tuple(0, word));
      }
      bad("5: all bits above 0", state, "tuple(0, NONE)", y -> y.tuple(0, NONE));
    }
    constraintNumbers("5: a TABLE", 0, (x, c) -> x.tuple(c, 0));
    s = "5: TUPLES, 20 at most: FULL";
    TableChoices x = oneConstraint(0, 2);
    for (int i = 1; i <= 20; i++) due(s, "tuple(0, 0)", x.tuple(0, 0), i);
    due(s, "tuple(0, 0)", x.tuple(0, 0), FULL);
    due(s, "told(0, 3)", x.told(0, 3), 20);
    changesNothing(s, States::fullTuples, "tuple(0, 5 5)", y -> y.tuple(0, w(5, 5)), FULL);
    changesNothing(s, States::fullTuples, "tuple(0, 7 7)", y -> y.tuple(0, w(7, 7)), FULL);
    bad("5: BAD ahead of FULL", States::fullTuples, "tuple(0, 6 0)", y -> y.tuple(0, 6));
    bad("5: BAD ahead of FULL", States::fullTuples, "tuple(0, 1 << 6)", y -> y.tuple(0, 1 << 6));
    bad("5: BAD ahead of FULL", States::fullTuples, "tuple(1, 0)", y -> y.tuple(1, 0));
    TableChoices two = States.fullTuples();
    two.table(1, 0);
    due(s, "tuple of another table", two.tuple(1, 0), 1);
  }

  /** One constraint of a kind over the first of six names. */
  private static TableChoices oneConstraint(int kind, int many) {
    TableChoices x = namesOfTwo(6);
    make(x, kind, many, rowOf(many));
    return x;
  }

  interface NumberCall {
    int on(TableChoices x, int constraint);
  }

  /** A call that is about a constraint of one kind, or (kind NONE) of any, is BAD for every other number. */
  private static void constraintNumbers(String s, int kind, NumberCall call) {
    for (int c : new int[] {-1, 7, 8, 9, 10, 11, -2, -100}) bad(s, States::allKinds, "of " + c, x -> call.on(x, c));
    for (int c : FAR_OUT) bad(s, States::allKinds, "of " + c, x -> call.on(x, c));
    for (int c = 0; c < 7; c++) {
      int number = c;
      if (kind == NONE || kind == c) {
        boolean taken = call.on(States.allKinds(), c) != BAD;
        due(s, "of " + KINDS[c] + " is taken (1)", taken ? 1 : 0, 1);
        TableChoices gone = States.allKinds();
        for (int i = 7; i > c; i--) gone.undo();
        due(s, "of one that went by undo()", call.on(gone, c), BAD);
      } else {
        bad(s, States::allKinds, "of " + KINDS[c], x -> call.on(x, number));
      }
    }
    bad(s, States::fullNames, "of 1, where there is one", x -> call.on(x, 1));
    bad(s, States::fullConstraints, "of 10, where there are ten", x -> call.on(x, 10));
  }

  private static void machine() {
    String s = "6: ENDS as bits (0 .. 63), MOST 0 .. 1000";
    int row = rowOf(2);
    for (int ends : new int[] {0, 1, 32, 63}) due(s, "ends " + ends, States.sixNames().machine(2, row, ends, 5), 0);
    for (int most : new int[] {0, 1, 999, 1000}) due(s, "most " + most, States.sixNames().machine(2, row, 1, most), 0);
    for (int ends : new int[] {-1, 64, 65, 127, -64, MIN, MIN | 1, MAX}) {
      bad(s, States::sixNames, "ends " + ends, x -> x.machine(2, row, ends, 5));
    }
    for (int most : new int[] {-1, 1001, -1000, 1 << 10, MIN, MAX}) {
      bad(s, States::sixNames, "most " + most, x -> x.machine(2, row, 1, most));
    }
    due("6: without STEPS", "told(0, 3)", oneConstraint(1, 2).told(0, 3), 0);
  }

  private static void step() {
    String s = "7: STATES 0 .. 5, a VALUE 0 .. 5, a COST 0 .. 100";
    for (int at = 0; at < 6; at++) {
      due(s, "from " + at, oneConstraint(1, 2).step(0, at, 0, 0, 0), 1);
      due(s, "value " + at, oneConstraint(1, 2).step(0, 0, at, 0, 0), 1);
      due(s, "to " + at, oneConstraint(1, 2).step(0, 0, 0, at, 0), 1);
      due(s, "from and to " + at, oneConstraint(1, 2).step(0, at, 0, at, 0), 1);
    }
    for (int cost : new int[] {0, 1, 99, 100}) due(s, "cost " + cost, oneConstraint(1, 2).step(0, 0, 0, 0, cost), 1);
    for (int out : new int[] {-1, 6, 7, 8, -8, 64, MIN, MAX}) {
      bad(s, States::allKinds, "from " + out, x -> x.step(1, out, 0, 0, 0));
      bad(s, States::allKinds, "value " + out, x -> x.step(1, 0, out, 0, 0));
      bad(s, States::allKinds, "to " + out, x -> x.step(1, 0, 0, out, 0));
    }
    for (int cost : new int[] {-1, 101, -100, 128, 1 << 20, MIN, MAX}) {
      bad(s, States::allKinds, "cost " + cost, x -> x.step(1, 0, 0, 0, cost));
    }
    constraintNumbers("7: a MACHINE", 1, (x, c) -> x.step(c, 0, 0, 0, 0));
    s = "7: STEPS, 30 at most: FULL";
    TableChoices x = oneConstraint(1, 2);
    for (int i = 1; i <= 30; i++) due(s, "step", x.step(0, 5, i % 6, 5, 100), i);
    due(s, "step", x.step(0, 5, 5, 5, 100), FULL);
    due(s, "told(0, 3)", x.told(0, 3), 30);
    for (int v = 0; v < 6; v++) {
      int value = v;
      changesNothing(s, States::fullSteps, "step by " + v, y -> y.step(0, 0, value, 5, 0), FULL);
      bad("7: BAD ahead of FULL", States::fullSteps, "step by " + v + ", cost 101", y -> y.step(0, 0, value, 5, 101));
    }
    bad("7: BAD ahead of FULL", States::fullSteps, "from 6", y -> y.step(0, 6, 0, 0, 0));
    bad("7: BAD ahead of FULL", States::fullSteps, "value 6", y -> y.step(0, 0, 6, 0, 0));
    bad("7: BAD ahead of FULL", States::fullSteps, "to 6", y -> y.step(0, 0, 0, 6, 0));
    bad("7: BAD ahead of FULL", States::fullSteps, "cost -1", y -> y.step(0, 0, 0, 0, -1));
    bad("7: BAD ahead of FULL", States::fullSteps, "step(1, ..)", y -> y.step(1, 0, 0, 0, 0));
    TableChoices two = States.fullSteps();
    two.machine(1, 0, 1, 1);
    due(s, "step of another machine", two.step(1, 0, 0, 0, 0), 1);
  }

  private static void sumBounds() {
    String s = "10: LOW, HIGH 0 .. 30, LOW not above HIGH";
    int[] numbers = {MIN, -31, -1, 0, 1, 6, 15, 29, 30, 31, 32, 63, MAX};
    for (int low : numbers) {
      for (int high : numbers) {
        boolean good = low >= 0 && high <= 30 && low <= high;
        String call = "sum(2, .., " + low + ", " + high + ")";
        if (good) due(s, call, States.sixNames().sum(2, rowOf(2), low, high), 0);
        else bad(s, States::sixNames, call, x -> x.sum(2, rowOf(2), low, high));
      }
    }
  }

  private static void tallyBounds() {
    String s = "11: LOW, HIGH 0 .. 6, LOW not above HIGH";
    int[] numbers = {MIN, -7, -1, 0, 1, 3, 5, 6, 7, 8, 30, MAX};
    for (int low : numbers) {
      for (int high : numbers) {
        boolean good = low >= 0 && high <= 6 && low <= high;
        String call = "tally(2, .., 0, " + low + ", " + high + ")";
        if (good) due(s, call, States.sixNames().tally(2, rowOf(2), 0, low, high), 0);
        else bad(s, States::sixNames, call, x -> x.tally(2, rowOf(2), 0, low, high));
      }
    }
    s = "11: a VALUE 0 .. 5";
    for (int v = 0; v < 6; v++) due(s, "value " + v, States.oneName().tally(1, 0, v, 0, 1), 0);
    for (int v : new int[] {-1, 6, 7, 8, MIN, MAX}) bad(s, States::sixNames, "value " + v, x -> x.tally(2, rowOf(2), v, 0, 1));
  }

  private static void firstValues() {
    String s = "12: VALUES a, b 0 .. 5; BAD: also a is b";
    int[] numbers = {MIN, -1, 0, 1, 2, 3, 4, 5, 6, 7, 8, MAX};
    for (int a : numbers) {
      for (int b : numbers) {
        boolean good = a >= 0 && a <= 5 && b >= 0 && b <= 5 && a != b;
        String call = "first(2, .., " + a + ", " + b + ")";
        if (good) due(s, call, States.sixNames().first(2, rowOf(2), a, b), 0);
        else bad(s, States::sixNames, call, x -> x.first(2, rowOf(2), a, b));
      }
    }
  }

  private static void undo() {
    String s = "13: how many are left. NONE: there is none";
    TableChoices x = States.fullConstraints();
    for (int left = 9; left >= 0; left--) {
      due(s, "undo()", x.undo(), left);
      due(s, "of(1)", x.of(1), left);
      due(s, "told(" + left + ", 0)", x.told(left, 0), BAD);
      if (left > 0) due(s, "told(" + (left - 1) + ", 1)", x.told(left - 1, 1), 3);
    }
    due(s, "undo()", x.undo(), NONE);
    due(s, "of(1)", x.of(1), 0);
    changesNothing(s, States::sixNames, "undo()", y -> y.undo(), NONE);
    TableChoices t = States.fullTuples();
    t.undo();
    due(s, "table, its number anew", t.table(2, w(1, 0)), 0);
    due(s, "told(0, 3), the tuples of the one that went are not its", t.told(0, 3), 0);
    due(s, "allows(0, 0)", t.allows(0, 0), 0);
    s = "13: REASONS stay as they are";
    TableChoices r = States.allKinds();
    for (int left = 6; left >= 0; left--) r.undo();
    due(s, "domain(1)", r.domain(1), 3);
    due(s, "why(0, 2, 0), by a constraint that went", r.why(0, 2, 0), 2);
    due(s, "why(0, 2, 1)", r.why(0, 2, 1), 1);
    due(s, "of(3)", r.of(3), 2);
    due(s, "of(4)", r.of(4), 5);
  }

  private static void cut() {
    String s = "14: a set (0 .. 63), a NAME";
    due(s, "cut(0, 63)", States.sixNames().cut(0, 63), 0);
    due(s, "cut(0, 1)", States.sixNames().cut(0, 1), 5);
    due(s, "cut(5, 2), the last name", States.sixNames().cut(5, 2), 1);
    for (int set : new int[] {-1, 64, 65, 127, -64, MIN, MIN | 63, MAX}) bad(s, States::sixNames, "cut(0, " + set + ")", x -> x.cut(0, set));
    for (int n : new int[] {-1, 6, 7, 8, -6}) bad(s, States::sixNames, "cut(" + n + ", 63)", x -> x.cut(n, 63));
    for (int n : FAR_OUT) bad(s, States::sixNames, "cut(" + n + ", 63)", x -> x.cut(n, 63));
    for (int n : new int[] {2, 3, 5}) bad(s, States::fullMarks, "cut(" + n + ", 63), there are two names", x -> x.cut(n, 63));
    s = "14: EMPTY: none would be left";
    for (int n = 0; n < 6; n++) {
      int number = n;
      int domain = States.sixNames().domain(n);
      changesNothing(s, States::sixNames, "cut(" + n + ", 0)", x -> x.cut(number, 0), EMPTY);
      if (domain != 63) changesNothing(s, States::sixNames, "all others", x -> x.cut(number, 63 & ~domain), EMPTY);
      for (int v = 0; v < 6; v++) {
        if ((domain & 1 << v) == 0) continue;
        TableChoices x = States.sixNames();
        due(s, "cut to one", x.cut(n, 1 << v), Integer.bitCount(domain) - 1);
        due(s, "domain", x.domain(n), 1 << v);
        due(s, "cut of the last one", x.cut(n, 63 & ~(1 << v)), EMPTY);
        due(s, "domain", x.domain(n), 1 << v);
        due(s, "why of the last one", x.why(n, v, 0), NONE);
      }
    }
    changesNothing(s, States::fullMarks, "values that went before", x -> x.cut(0, 15), EMPTY);
    bad("14: BAD ahead of EMPTY", States::sixNames, "cut(6, 0)", x -> x.cut(6, 0));
    bad("14: BAD ahead of EMPTY", States::sixNames, "cut(-1, 0)", x -> x.cut(-1, 0));
    bad("14: BAD ahead of EMPTY", States::sixNames, "cut(0, 64), a set of no value", x -> x.cut(0, 64));
    bad("14: BAD ahead of EMPTY", States::sixNames, "cut(1, MIN)", x -> x.cut(1, MIN));
  }

  private static void markAndBack() {
    String s = "16: how many there are. FULL: 8 at most";
    TableChoices x = States.allKinds();
    for (int i = 2; i <= 8; i++) due(s, "mark()", x.mark(), i);
    due(s, "mark()", x.mark(), FULL);
    due(s, "of(2)", x.of(2), 8);
    changesNothing(s, States::fullMarks, "mark()", y -> y.mark(), FULL);
    due(s, "mark() without names", new TableChoices().mark(), 1);
    s = "17: how many are left. NONE: there is none";
    TableChoices y = States.fullMarks();
    for (int left = 7; left >= 0; left--) due(s, "back()", y.back(), left);
    due(s, "back()", y.back(), NONE);
    due(s, "of(2)", y.of(2), 0);
    for (Make state : States.all()) {
      if (state.make().of(2) == 0) changesNothing(s, state, "back()", z -> z.back(), NONE);
    }
    due(s, "mark() behind that", y.mark(), 1);
  }

  private static void domain() {
    String s = "18: a NAME";
    int[] due = {63, 1, 3, 63, 7, 3};
    for (int n = 0; n < 6; n++) due(s, "domain(" + n + ")", States.sixNames().domain(n), due[n]);
    for (int n : new int[] {-1, 6, 7, 8}) bad(s, States::sixNames, "domain(" + n + ")", x -> x.domain(n));
    for (int n : FAR_OUT) bad(s, States::sixNames, "domain(" + n + ")", x -> x.domain(n));
    for (int n = 1; n < 7; n++) {
      int number = n;
      bad(s, States::oneName, "domain(" + n + "), there is one name", x -> x.domain(number));
    }
  }

  private static void why() {
    String s = "19: a NAME, a VALUE 0 .. 5, what = 0, 1";
    int[] numbers = {MIN, -36, -6, -1, 0, 1, 2, 3, 4, 5, 6, 7, 35, 36, 1 << 30, MAX};
    for (int n : numbers) {
      for (int v : numbers) {
        for (int what : numbers) {
          boolean good = n >= 0 && n <= 5 && v >= 0 && v <= 5 && (what == 0 || what == 1);
          int there = good && what == 0 ? (States.sixNames().domain(n) & 1 << v) != 0 ? NONE : 11 : 0;
          due(s, "why(" + n + ", " + v + ", " + what + ")", States.sixNames().why(n, v, what), good ? there : BAD);
        }
      }
    }
    for (int n : new int[] {-1, 3, 5, 6}) bad(s, States::allKinds, "why(" + n + ", 0, 0), there are three names", x -> x.why(n, 0, 0));
    bad(s, States::allKinds, "why(0, 6, 0)", x -> x.why(0, 6, 0));
    bad(s, States::allKinds, "why(0, 0, 2)", x -> x.why(0, 0, 2));
  }

  private static void allows() {
    String s = "20: a WORD of its ROW";
    for (int kind = 0; kind < 7; kind++) {
      for (int many = FEWEST[kind]; many <= 6; many++) {
        if (!takes(kind, many)) continue;
        int k = kind;
        int m = many;
        Make state = () -> oneConstraint(k, m);
        for (int place = 0; place < many; place++) {
          for (int v = 0; v < 6; v++) {
            boolean taken = state.make().allows(0, with(0, place, v)) != BAD;
            due(s, KINDS[k] + ", value " + v + " at " + place + " is taken (1)", taken ? 1 : 0, 1);
          }
          for (int v = 6; v < 8; v++) {
            int word = with(0, place, v);
            bad(s, state, KINDS[k] + ", " + v + " at " + place, x -> x.allows(0, word));
          }
        }
        for (int bit = 3 * many; bit < 32; bit++) {
          int word = 1 << bit;
          bad(s, state, KINDS[k] + " of " + m + ", allows(0, 1 << " + bit + ")", x -> x.allows(0, word));
        }
        bad(s, state, KINDS[k] + ", NONE is no word", x -> x.allows(0, NONE));
      }
    }
    constraintNumbers("20: a CONSTRAINT", NONE, (x, c) -> x.allows(c, 0));
  }

  private static void told() {
    String s = "21: what = 0 .. 4";
    for (int c = 0; c < 7; c++) {
      int number = c;
      for (int what = 0; what < 5; what++) {
        int asked = what;
        boolean taken = States.allKinds().told(c, what) != BAD;
        due(s, "told(" + c + ", " + what + ") is taken (1)", taken ? 1 : 0, 1);
        changesNothing(s, States::allKinds, "told(" + c + ", " + what + ")", x -> x.told(number, asked),
            States.allKinds().told(c, what));
      }
      for (int what : new int[] {-1, 5, 6, 256, MIN, MAX}) bad(s, States::allKinds, "told(" + c + ", " + what + ")", x -> x.told(number, what));
    }
    for (int what = 0; what < 5; what++) {
      int asked = what;
      constraintNumbers("21: a CONSTRAINT", NONE, (x, c) -> x.told(c, asked));
    }
  }

  private static void least() {
    constraintNumbers("22: BAD: also another CONSTRAINT", 1, (x, c) -> x.least(c));
    changesNothing("22: NONE: there is none such", States::failed, "least(1)", x -> x.least(1), NONE);
    bad("22: BAD ahead of NONE", States::failed, "least(0)", x -> x.least(0));
    bad("22: BAD ahead of NONE", States::failed, "least(2)", x -> x.least(2));
  }

  private static void next() {
    String s = "24: a WORD of all NAMES, or NONE";
    for (int many = 0; many <= 6; many++) {
      int m = many;
      Make state = () -> namesOfTwo(m);
      for (int bit = 3 * many; bit < 32; bit++) {
        int word = 1 << bit;
        bad(s, state, "next(1 << " + bit + ") of " + m + " names", x -> x.next(word));
      }
      for (int place = 0; place < many; place++) {
        for (int v = 0; v < 6; v++) {
          boolean taken = state.make().next(with(0, place, v)) != BAD;
          due(s, "value " + v + " at " + place + " is taken (1)", taken ? 1 : 0, 1);
        }
        int six = with(0, place, 6);
        int star = with(0, place, 7);
        bad(s, state, "6 at " + place + " of " + m, x -> x.next(six));
        bad(s, state, "7 at " + place + " of " + m, x -> x.next(star));
      }
      for (int word : new int[] {-2, -3, -8, MIN, MIN + 1, MAX}) bad(s, state, "next(" + word + ")", x -> x.next(word));
      changesNothing(s, state, "next(NONE) of " + m, x -> x.next(NONE), 0);
      changesNothing(s, state, "next(the last one) of " + m, x -> x.next(each(m, 1)), NONE);
    }
    changesNothing("24: NONE: there is none", States::failed, "next(NONE)", x -> x.next(NONE), NONE);
    changesNothing("24: NONE: there is none", States::failed, "next(0)", x -> x.next(0), NONE);
    bad("24: BAD ahead of NONE", States::failed, "next(6)", x -> x.next(6));
    bad("24: BAD ahead of NONE", States::failed, "next(1 << 9)", x -> x.next(1 << 9));
    bad("24: BAD ahead of NONE", States::failed, "next(-2)", x -> x.next(-2));
  }

  private static void of() {
    String s = "25: what = 0 .. 4";
    int[] due = {3, 7, 1, 2, 5};
    for (int what = 0; what < 5; what++) {
      int asked = what;
      changesNothing(s, States::allKinds, "of(" + what + ")", x -> x.of(asked), due[what]);
    }
    for (int what : new int[] {-1, 5, 6, -2, 256, MIN, MAX}) {
      for (Make state : States.all()) bad(s, state, "of(" + what + ")", x -> x.of(what));
    }
    due(s, "of(0), at most", States.sixNames().of(0), 6);
    due(s, "of(1), at most", States.fullConstraints().of(1), 10);
    due(s, "of(2), at most", States.fullMarks().of(2), 8);
    due(s, "of(4), at most", names(6, 6, 6, 6, 6, 6).of(4), 36);
    due(s, "of(4), at least with a name", States.oneName().of(4), 1);
  }
}
