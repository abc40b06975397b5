/** Runs, reasons, marks and solutions at their bounds: nothing, one, all; the first and the last. */
public final class BoundaryRunsTest extends Checks {
  public static void main(String[] args) {
    runOfNothing();
    runToTheLastRound();
    runOfMostRounds();
    runTakesAllButOne();
    failsAtTheFirst();
    failsAtTheLast();
    failsLater();
    failsAndKeeps();
    reasons();
    roundsBeginAnew();
    reasonsBehindCut();
    marksKeepAll();
    marksKeepNoConstraints();
    marksOneByOne();
    latestRun();
    countAtBounds();
    countOfFreeNames();
    nextFromEnds();
    nextByName();
    nextBehindAnyWord();
    nextOfOne();
    calls();
    end("runs, marks and solutions are as due at their bounds");
  }

  private static TableChoices six() {
    return names(6, 6, 6, 6, 6, 6);
  }

  private static void runOfNothing() {
    String s = "15: the last ROUND is the first one in which nothing goes";
    Make[] quiet = {States::nothing, States::oneName, States::sixNames, States::fullConstraints};
    for (Make state : quiet) {
      TableChoices x = state.make();
      due(s, "of(3) before", x.of(3), 0);
      int values = x.of(4);
      x.run();
      due(s, "of(3), rounds from 1 on", x.of(3) > 0 ? 1 : 0, 1);
      int left = x.of(4);
      due(s, "run() again", x.run(), 0);
      due(s, "of(3)", x.of(3), 1);
      due(s, "of(4)", x.of(4), left);
      if (state != quiet[3]) due(s, "of(4) as before", left, values);
    }
    TableChoices x = names(3, 3);
    x.sum(2, w(0, 1), 0, 4);
    due(s, "run(), nothing to take", x.run(), 0);
    due(s, "of(3)", x.of(3), 1);
  }

  private static void runToTheLastRound() {
    String s = "15: ROUNDS, CONSTRAINT by CONSTRAINT by their numbers";
    TableChoices inOrder = names(3, 3, 3);
    inOrder.sum(1, 0, 2, 2);
    inOrder.order(2, w(0, 1), false);
    inOrder.order(2, w(1, 2), false);
    due(s, "run()", inOrder.run(), 6);
    due(s, "of(3), all in the first round", inOrder.of(3), 2);
    due(s, "why(2, 0, 0)", inOrder.why(2, 0, 0), 2);
    due(s, "why(2, 0, 1)", inOrder.why(2, 0, 1), 1);
    TableChoices turned = names(3, 3, 3);
    turned.order(2, w(1, 2), false);
    turned.order(2, w(0, 1), false);
    turned.sum(1, 0, 2, 2);
    due(s, "run()", turned.run(), 6);
    due(s, "of(3), a round for each", turned.of(3), 4);
    due(s, "why(0, 0, 1)", turned.why(0, 0, 1), 1);
    due(s, "why(1, 0, 1)", turned.why(1, 0, 1), 2);
    due(s, "why(2, 0, 1)", turned.why(2, 0, 1), 3);
    due(s, "why(2, 0, 0)", turned.why(2, 0, 0), 0);
    TableChoices twice = names(6, 6);
    twice.order(2, w(0, 1), true);
    twice.order(2, w(0, 1), true);
    due(s, "run(), two that take the same", twice.run(), 2);
    due(s, "why(0, 5, 0), the first of them takes", twice.why(0, 5, 0), 0);
  }

  /** A ring of six names in which each value that goes makes the next name lose one, a round later. */
  private static void runOfMostRounds() {
    String s = "15: many ROUNDS";
    TableChoices x = six();
    x.table(2, w(0, 5));
    x.tuple(0, w(0, 7));
    for (int v = 1; v < 6; v++) {
      for (int above = v + 1; above < 6; above++) x.tuple(0, w(v, above));
    }
    for (int n = 5; n > 0; n--) x.order(2, w(n, n - 1), false);
    due(s, "run()", x.run(), 30);
    due(s, "of(3)", x.of(3), 26);
    for (int n = 0; n < 6; n++) {
      due(s, "domain(" + n + ")", x.domain(n), 1);
      for (int v = 5; v > 0; v--) {
        due(s, "why(" + n + ", " + v + ", 0)", x.why(n, v, 0), n == 0 ? 0 : 6 - n);
        due(s, "why(" + n + ", " + v + ", 1)", x.why(n, v, 1), 5 * (5 - v) + Math.max(1, n));
      }
    }
    due(s, "count()", x.count(), 1);
    due(s, "next(NONE)", x.next(NONE), 0);
  }

  private static void runTakesAllButOne() {
    String s = "15: a DOMAIN is never empty";
    for (int v = 0; v < 6; v++) {
      TableChoices x = six();
      x.table(6, rowOf(6));
      x.tuple(0, each(6, v));
      due(s, "run()", x.run(), 30);
      due(s, "of(3)", x.of(3), 2);
      due(s, "of(4)", x.of(4), 6);
      for (int n = 0; n < 6; n++) due(s, "domain(" + n + ")", x.domain(n), 1 << v);
      x.sum(6, rowOf(6), v == 0 ? 1 : 0, v == 0 ? 30 : 6 * v - 1);
      due(s, "run() that fails", x.run(), FAILED - 1);
      for (int n = 0; n < 6; n++) due(s, "domain(" + n + ") is kept", x.domain(n), 1 << v);
    }
  }

  private static void failsAtTheFirst() {
    String s = "15: FAILED less the CONSTRAINT that FAILS: 0";
    TableChoices x = names(2, 2);
    x.table(1, 0);
    x.sum(1, 1, 1, 1);
    due(s, "run()", x.run(), FAILED);
    due(s, "of(3), the round in which one failed", x.of(3), 1);
    due(s, "domain(1): the run ends, number 1 takes nothing", x.domain(1), 3);
    due(s, "why(1, 0, 0)", x.why(1, 0, 0), NONE);
    due(s, "domain(0)", x.domain(0), 3);
    due(s, "undo()", x.undo(), 1);
    due(s, "run()", x.run(), FAILED);
  }

  private static void failsAtTheLast() {
    String s = "15: FAILED less the CONSTRAINT that FAILS: 9";
    for (int at = 0; at < 10; at++) {
      TableChoices x = names(6, 6);
      for (int i = 0; i < 10; i++) {
        if (i == at) x.sum(2, w(0, 1), 30, 30);
        else x.sum(2, w(0, 1), 0, 9 - i);
      }
      due(s, "run(), " + at + " fails", x.run(), FAILED - at);
      // the one before it allows 10 - at together, so all above went
      int high = at == 0 ? 5 : Math.min(5, 10 - at);
      due(s, "domain(0): what went before that stays so", x.domain(0), (1 << high + 1) - 1);
      due(s, "of(4)", x.of(4), 2 * (high + 1));
      due(s, "of(3)", x.of(3), 1);
    }
  }

  private static void failsLater() {
    String s = "15: one FAILED in a later ROUND";
    TableChoices x = names(6, 6);
    x.order(2, w(0, 1), false);
    x.order(2, w(1, 0), true);
    // 0 .. 5 each; 1 .. 5 and 0 .. 4; 1 .. 4; 2 .. 4 and 1 .. 3; 2 .. 3; 3 and 2
    due(s, "run()", x.run(), FAILED);
    due(s, "of(3)", x.of(3), 4);
    due(s, "domain(0): what went before that stays so", x.domain(0), 8);
    due(s, "domain(1)", x.domain(1), 4);
    due(s, "why(0, 5, 0)", x.why(0, 5, 0), 0);
    due(s, "why(0, 5, 1)", x.why(0, 5, 1), 2);
    due(s, "why(0, 0, 0)", x.why(0, 0, 0), 1);
    due(s, "why(0, 0, 1)", x.why(0, 0, 1), 1);
    due(s, "why(0, 2, 1)", x.why(0, 2, 1), 3);
    due(s, "run() again", x.run(), FAILED);
    due(s, "of(3)", x.of(3), 1);
    due(s, "count()", x.count(), 0);
  }

  /** Also a constraint that fails takes nothing from its own names. */
  private static void failsAndKeeps() {
    String s = "15: it FAILS, and the run ends; else go all VALUES";
    TableChoices x = names(3, 3, 3);
    x.order(2, w(0, 1), true);
    x.element(3, w(2, 0, 1));
    x.cut(2, 6);
    due(s, "run()", x.run(), FAILED - 1);
    due(s, "domain(2)", x.domain(2), 6);
    due(s, "domain(0)", x.domain(0), 3);
    due(s, "domain(1)", x.domain(1), 6);
    due(s, "why(2, 1, 0)", x.why(2, 1, 0), NONE);
  }

  private static void reasons() {
    String s = "REASON: NONE, the CONSTRAINT, 10, 11; ROUND";
    TableChoices x = names(5);
    for (int i = 0; i < 9; i++) x.sum(1, 0, 0, 30);
    x.sum(1, 0, 0, 2);
    x.cut(0, 30);
    x.run();
    int[] due = {10, NONE, NONE, 9, 9, 11};
    int[] rounds = {0, 0, 0, 1, 1, 0};
    for (int v = 0; v < 6; v++) {
      due(s, "why(0, " + v + ", 0)", x.why(0, v, 0), due[v]);
      due(s, "why(0, " + v + ", 1)", x.why(0, v, 1), rounds[v]);
    }
    x.undo();
    x.sum(1, 0, 2, 2);
    due(s, "why(0, 3, 0): another one has the number 9", x.why(0, 3, 0), 9);
    due(s, "why(0, 1, 0)", x.why(0, 1, 0), NONE);
    due(s, "run()", x.run(), 1);
    due(s, "why(0, 1, 0)", x.why(0, 1, 0), 9);
    due(s, "why(0, 3, 1)", x.why(0, 3, 1), 1);
  }

  private static void roundsBeginAnew() {
    String s = "ROUND: that of its run (from 1 on)";
    TableChoices x = names(4, 4, 4);
    x.order(2, w(1, 2), true);
    x.order(2, w(0, 1), true);
    due(s, "run()", x.run(), 6);
    due(s, "why(2, 1, 1)", x.why(2, 1, 1), 2);
    due(s, "of(3)", x.of(3), 3);
    x.cut(2, 4);
    due(s, "run()", x.run(), 2);
    due(s, "why(1, 2, 1), the first of this run", x.why(1, 2, 1), 1);
    due(s, "why(2, 3, 1), it went by cut", x.why(2, 3, 1), 0);
    due(s, "why(2, 1, 1), of the run before", x.why(2, 1, 1), 2);
    due(s, "of(3)", x.of(3), 2);
  }

  private static void reasonsBehindCut() {
    String s = "14: what went before keeps its REASON";
    TableChoices x = names(4);
    x.sum(1, 0, 1, 3);
    x.run();
    due(s, "cut(0, 6)", x.cut(0, 6), 1);
    due(s, "why(0, 0, 0)", x.why(0, 0, 0), 0);
    due(s, "why(0, 0, 1)", x.why(0, 0, 1), 1);
    due(s, "why(0, 3, 0)", x.why(0, 3, 0), 10);
    due(s, "why(0, 4, 0)", x.why(0, 4, 0), 11);
    due(s, "cut(0, 4)", x.cut(0, 4), 1);
    due(s, "cut(0, 4) again", x.cut(0, 4), 0);
    due(s, "cut(0, 63): nothing comes again", x.cut(0, 63), 0);
    due(s, "domain(0)", x.domain(0), 4);
  }

  private static void marksKeepAll() {
    String s = "17: a MARK keeps all DOMAINS, REASONS and ROUNDS";
    TableChoices x = six();
    x.order(2, w(1, 0), true);
    x.cut(5, 31);
    x.run();
    String before = choices(x);
    x.mark();
    for (int n = 0; n < 6; n++) x.cut(n, n == 0 ? 32 : 1);
    due(s, "of(4)", x.of(4), 6);
    due(s, "back()", x.back(), 0);
    same(s, "all choices", choices(x), before);
    x.mark();
    x.sum(6, rowOf(6), 1, 1);
    due(s, "run()", x.run(), 27);
    due(s, "why(5, 4, 0)", x.why(5, 4, 0), 1);
    due(s, "back()", x.back(), 0);
    same(s, "all choices", choices(x), before);
    due(s, "why(5, 4, 0)", x.why(5, 4, 0), NONE);
    due(s, "why(5, 4, 1)", x.why(5, 4, 1), 0);
  }

  private static String choices(TableChoices x) {
    StringBuilder all = new StringBuilder();
    for (int n = 0; n < x.of(0); n++) {
      all.append(x.domain(n)).append(':');
      for (int v = 0; v < 6; v++) all.append(x.why(n, v, 0)).append('/').append(x.why(n, v, 1)).append(' ');
    }
    return all.toString();
  }

  private static void marksKeepNoConstraints() {
    String s = "17: what a MARK does not keep stays as it is";
    TableChoices x = names(3, 3);
    x.table(1, 0);
    x.mark();
    x.tuple(0, 1);
    x.sum(2, w(0, 1), 0, 2);
    due(s, "back()", x.back(), 0);
    due(s, "of(1)", x.of(1), 2);
    due(s, "told(0, 3)", x.told(0, 3), 1);
    x.mark();
    due(s, "undo()", x.undo(), 1);
    due(s, "undo()", x.undo(), 0);
    due(s, "back()", x.back(), 0);
    due(s, "of(1)", x.of(1), 0);
    due(s, "undo()", x.undo(), NONE);
    TableChoices failed = names(2, 2);
    failed.order(2, w(0, 1), true);
    failed.table(1, 0);
    failed.mark();
    due(s, "run() that fails", failed.run(), FAILED - 1);
    due(s, "of(4)", failed.of(4), 2);
    due(s, "back()", failed.back(), 0);
    due(s, "of(4)", failed.of(4), 4);
    due(s, "why(0, 1, 0)", failed.why(0, 1, 0), NONE);
  }

  /** Each of the eight marks is its own, and a new one at a place that was used before is new. */
  private static void marksOneByOne() {
    String s = "17: BACK to the newest MARK, and the MARK goes";
    TableChoices x = names(6, 6, 6, 6, 6, 6);
    int[] left = new int[9];
    for (int m = 0; m < 8; m++) {
      left[m] = x.of(4);
      x.mark();
      x.cut(m % 6, m < 6 ? 31 : 15);
    }
    due(s, "of(4)", x.of(4), 28);
    for (int m = 7; m >= 4; m--) {
      due(s, "back()", x.back(), m);
      due(s, "of(4)", x.of(4), left[m]);
    }
    x.cut(5, 1);
    due(s, "mark()", x.mark(), 5);
    x.cut(4, 1);
    due(s, "back() to the new one", x.back(), 4);
    due(s, "domain(5)", x.domain(5), 1);
    due(s, "domain(4)", x.domain(4), 63);
    due(s, "back() to the one before", x.back(), 3);
    due(s, "domain(5)", x.domain(5), 63);
    for (int m = 2; m >= 0; m--) {
      due(s, "back()", x.back(), m);
      due(s, "of(4)", x.of(4), left[m]);
    }
    due(s, "of(4)", x.of(4), 36);
  }

  private static void latestRun() {
    String s = "25: ROUNDS of the latest run (0 before)";
    TableChoices x = names(3, 3);
    due(s, "of(3)", x.of(3), 0);
    x.cut(0, 3);
    x.mark();
    x.sum(1, 0, 1, 2);
    due(s, "of(3)", x.of(3), 0);
    x.run();
    due(s, "of(3), also the last one, in which nothing went", x.of(3), 2);
    x.undo();
    due(s, "of(3)", x.of(3), 2);
    x.run();
    due(s, "of(3), none of it", x.of(3), 1);
    x.table(1, 0);
    x.run();
    due(s, "of(3), also the one in which one FAILED", x.of(3), 1);
    x.clear();
    due(s, "of(3)", x.of(3), 0);
  }

  private static void countAtBounds() {
    String s = "23: how many SOLUTIONS there are (without NAMES 1)";
    due(s, "count() without names", new TableChoices().count(), 1);
    TableChoices cleared = States.failed();
    due(s, "count(), none", cleared.count(), 0);
    cleared.clear();
    due(s, "count() of what was cleared", cleared.count(), 1);
    int words = 1;
    TableChoices x = new TableChoices();
    for (int n = 0; n < 6; n++) {
      x.name(6);
      words *= 6;
      due(s, "count() of " + (n + 1) + " names", x.count(), words);
    }
    x.sum(6, rowOf(6), 1, 30);
    due(s, "count(), all but one", x.count(), 46655);
    x.sum(6, rowOf(6), 0, 29);
    due(s, "count(), all but two", x.count(), 46654);
    for (int i = 2; i < 10; i++) x.sum(6, rowOf(6), 0, 0);
    due(s, "count() of ten constraints", x.count(), 0);
    x.undo();
    due(s, "count() of nine", x.count(), 0);
    TableChoices one = names(1, 1, 1, 1, 1, 1);
    due(s, "count() of names with one value", one.count(), 1);
    one.tally(6, rowOf(6), 0, 6, 6);
    due(s, "count(), it is allowed", one.count(), 1);
    one.tally(6, rowOf(6), 0, 0, 5);
    due(s, "count(), it is not", one.count(), 0);
  }

  private static void countOfFreeNames() {
    String s = "23: NAMES that are in no ROW";
    for (int n = 0; n < 6; n++) {
      TableChoices x = six();
      x.sum(1, n, 4, 30);
      due(s, "count(), a constraint on " + n, x.count(), 2 * 7776);
      x.table(1, 5 - n);
      x.tuple(1, 0);
      due(s, "count(), and on " + (5 - n), x.count(), 2 * 1296);
      x.tuple(1, 5);
      due(s, "count(), and on " + (5 - n), x.count(), 4 * 1296);
      due(s, "of(4), counting takes nothing", x.of(4), 36);
    }
  }

  private static void nextFromEnds() {
    String s = "24: the first SOLUTION behind a WORD; NONE: there is none";
    for (int many = 1; many <= 6; many++) {
      TableChoices x = new TableChoices();
      for (int n = 0; n < many; n++) x.name(6);
      due(s, "next(NONE)", x.next(NONE), 0);
      due(s, "next(0): the last place goes fastest", x.next(0), with(0, many - 1, 1));
      due(s, "next(all 5)", x.next(each(many, 5)), NONE);
      due(s, "next(all 5 but the last)", x.next(with(each(many, 5), many - 1, 4)), each(many, 5));
      due(s, "next(0 and then 5): over all places", x.next(with(each(many, 5), 0, 0)), 1);
      due(s, "next(4 and then 5)", x.next(with(each(many, 5), 0, 4)), 5);
    }
  }

  /** In order by name 0 first, which is not the order of the words as numbers. */
  private static void nextByName() {
    String s = "SOLUTIONS are in order by the VALUE of NAME 0, then 1, and so on";
    TableChoices x = names(2, 3, 2);
    int[] inOrder = {
      w(0, 0, 0), w(0, 0, 1), w(0, 1, 0), w(0, 1, 1), w(0, 2, 0), w(0, 2, 1),
      w(1, 0, 0), w(1, 0, 1), w(1, 1, 0), w(1, 1, 1), w(1, 2, 0), w(1, 2, 1), NONE
    };
    int word = NONE;
    for (int want : inOrder) {
      int got = x.next(word);
      due(s, "next(" + word + ")", got, want);
      word = want;
    }
    // a row in another order does not change theirs
    TableChoices y = names(2, 2);
    y.tally(2, w(1, 0), 1, 1, 1);
    due(s, "next(NONE)", y.next(NONE), w(0, 1));
    due(s, "next(0 1)", y.next(w(0, 1)), w(1, 0));
    due(s, "next(1 0)", y.next(w(1, 0)), NONE);
  }

  private static void nextBehindAnyWord() {
    String s = "24: a WORD (this need be none)";
    TableChoices x = names(4, 4);
    x.sum(2, w(0, 1), 3, 3);
    x.cut(0, 13);
    // the solutions are 0 3, 2 1, 3 0
    for (int a = 0; a < 6; a++) {
      for (int b = 0; b < 6; b++) {
        int at = 10 * a + b;
        int want = at < 3 ? w(0, 3) : at < 21 ? w(2, 1) : at < 30 ? w(3, 0) : NONE;
        due(s, "next(" + a + " " + b + ")", x.next(w(a, b)), want);
      }
    }
    due(s, "next(NONE)", x.next(NONE), w(0, 3));
    due(s, "of(4), asking takes nothing", x.of(4), 7);
  }

  private static void nextOfOne() {
    String s = "24: without NAMES, and with names of one VALUE";
    TableChoices none = new TableChoices();
    due(s, "next(NONE) without names", none.next(NONE), 0);
    due(s, "next(0) without names: it is not behind itself", none.next(0), NONE);
    due(s, "next(1) without names", none.next(1), BAD);
    TableChoices one = names(1, 1);
    due(s, "next(NONE)", one.next(NONE), 0);
    due(s, "next(0)", one.next(0), NONE);
    due(s, "next(0 5)", one.next(w(0, 5)), NONE);
    one.table(1, 0);
    due(s, "next(NONE), none is allowed", one.next(NONE), NONE);
  }

  /** Each call of the last ones answers as the first one. */
  private static void calls() {
    String s = "an object is used for at most 512 calls";
    TableChoices x = names(6, 6, 6, 6, 6, 6);
    for (int i = 0; i < 5; i++) x.order(6, i % 2 == 0 ? rowOf(6) : w(5, 4, 3, 2, 1, 0), false);
    for (int i = 0; i < 5; i++) x.tally(6, rowOf(6), i, 1, 1);
    int count = x.count();
    int first = x.next(NONE);
    int told = x.told(0, 4);
    int last = x.told(9, 4);
    due(s, "told(0, 4)", told, 216 * 217 / 2);
    due(s, "told(9, 4)", last, 6 * 3125);
    for (int call = 21; call <= 512; call++) {
      if (call % 64 == 0) due(s, "count(), call " + call, x.count(), count);
      else if (call % 4 == 1) due(s, "next(NONE), call " + call, x.next(NONE), first);
      else if (call % 4 == 2) due(s, "told(0, 4), call " + call, x.told(0, 4), told);
      else due(s, "told(9, 4), call " + call, x.told(9, 4), last);
    }
  }
}
