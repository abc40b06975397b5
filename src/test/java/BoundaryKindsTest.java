/** What each kind of constraint allows at its bounds: the last word that it allows, and the first that it does not. */
public final class BoundaryKindsTest extends Checks {
  public static void main(String[] args) {
    tableStars();
    tableEachPlace();
    tableFull();
    machineBegins();
    machineEnds();
    machineMost();
    machineWords();
    machineLongest();
    machineFull();
    machineWays();
    element();
    elementValues();
    orderOfOne();
    orderOfHalves();
    orderEachPlace();
    sum();
    tally();
    first();
    firstAlone();
    rowOrder();
    openWords();
    end("all kinds allow what they should at their bounds");
  }

  private static TableChoices six() {
    return names(6, 6, 6, 6, 6, 6);
  }

  private static void tableStars() {
    String s = "TABLE: 7 stands for any";
    TableChoices x = names(6);
    x.table(1, 0);
    for (int v = 0; v < 6; v++) due(s, "allows(0, " + v + ") without tuples", x.allows(0, v), 0);
    due(s, "told(0, 4) without tuples", x.told(0, 4), 0);
    x.tuple(0, 7);
    for (int v = 0; v < 6; v++) due(s, "allows(0, " + v + ")", x.allows(0, v), 1);
    due(s, "told(0, 4)", x.told(0, 4), 6);
    TableChoices y = six();
    y.table(6, rowOf(6));
    y.tuple(0, each(6, 7));
    due(s, "told(0, 4), six stars", y.told(0, 4), 46656);
    due(s, "allows(0, all 5)", y.allows(0, each(6, 5)), 1);
    due(s, "run()", y.run(), 0);
    y.tuple(0, each(6, 7));
    y.tuple(0, each(6, 0));
    due(s, "told(0, 4), no word twice", y.told(0, 4), 46656);
  }

  private static void tableEachPlace() {
    String s = "TABLE: at each place that VALUE, or 7";
    for (int many = 1; many <= 6; many++) {
      for (int place = 0; place < many; place++) {
        TableChoices x = six();
        x.table(many, rowOf(many));
        x.tuple(0, each(many, 2));
        due(s, "allows(0, the tuple)", x.allows(0, each(many, 2)), 1);
        for (int v = 0; v < 6; v++) due(s, v + " at " + place, x.allows(0, with(each(many, 2), place, v)), v == 2 ? 1 : 0);
        x.tuple(0, with(each(many, 5), place, 7));
        for (int v = 0; v < 6; v++) due(s, v + " at the star", x.allows(0, with(each(many, 5), place, v)), 1);
        due(s, "told(0, 4)", x.told(0, 4), many == 1 ? 6 : 7);
      }
    }
  }

  private static void tableFull() {
    String s = "TABLE: the 20th TUPLE is one, a 21st is none";
    TableChoices x = names(6, 6);
    x.table(2, w(0, 1));
    for (int i = 0; i < 19; i++) x.tuple(0, 0);
    due(s, "allows(0, 5 5)", x.allows(0, w(5, 5)), 0);
    due(s, "tuple(0, 5 5)", x.tuple(0, w(5, 5)), 20);
    due(s, "allows(0, 5 5)", x.allows(0, w(5, 5)), 1);
    due(s, "tuple(0, 4 4)", x.tuple(0, w(4, 4)), FULL);
    due(s, "allows(0, 4 4)", x.allows(0, w(4, 4)), 0);
    due(s, "allows(0, 0 0)", x.allows(0, 0), 1);
    due(s, "told(0, 4)", x.told(0, 4), 2);
    due(s, "run()", x.run(), 8);
    due(s, "domain(1)", x.domain(1), 33);
  }

  private static void machineBegins() {
    String s = "MACHINE: from STATE 0";
    for (int from = 0; from < 6; from++) {
      TableChoices x = names(6);
      x.machine(1, 0, 63, 1000);
      TableChoices asked = names(6);
      asked.machine(1, 0, 63, 1000);
      asked.step(0, from, 3, 5, 100);
      asked.step(0, 0, 2, 5, 100);
      due(s, "told(0, 4), nothing else was asked before", asked.told(0, 4), from == 0 ? 2 : 1);
      due(s, "allows(0, 3) without steps, though 0 is an end", x.allows(0, 3), 0);
      due(s, "least(0)", x.least(0), NONE);
      x.step(0, from, 3, 5, 100);
      due(s, "allows(0, 3), a step from " + from, x.allows(0, 3), from == 0 ? 1 : 0);
      due(s, "allows(0, 2)", x.allows(0, 2), 0);
      due(s, "least(0)", x.least(0), from == 0 ? 100 : NONE);
      due(s, "run()", x.run(), from == 0 ? 5 : FAILED);
    }
  }

  private static void machineEnds() {
    String s = "MACHINE: can come to an END";
    for (int to = 0; to < 6; to++) {
      for (int ends : new int[] {0, 63, 1 << to, 63 & ~(1 << to)}) {
        TableChoices x = names(6, 6);
        x.machine(2, w(0, 1), ends, 7);
        x.step(0, 0, 5, 5, 3);
        x.step(0, 5, 0, to, 4);
        due(s, "allows(0, 5 0), to " + to + ", ends " + ends, x.allows(0, w(5, 0)), (ends & 1 << to) != 0 ? 1 : 0);
        due(s, "allows(0, 5 5), no step", x.allows(0, w(5, 5)), 0);
      }
    }
    TableChoices same = names(6, 6, 6);
    same.machine(3, rowOf(3), 1, 0);
    same.step(0, 0, 5, 0, 0);
    due("MACHINE: a STATE (perhaps the same)", "allows(0, 5 5 5)", same.allows(0, each(3, 5)), 1);
    due("MACHINE: a STATE (perhaps the same)", "told(0, 4)", same.told(0, 4), 1);
  }

  private static void machineMost() {
    String s = "MACHINE: their COSTS together being at most MOST";
    int[][] twoCosts = {{0, 0}, {0, 1}, {1, 0}, {49, 51}, {100, 100}, {100, 0}};
    for (int[] costs : twoCosts) {
      int all = costs[0] + costs[1];
      for (int most = Math.max(0, all - 1); most <= all + 1; most++) {
        TableChoices x = names(2, 2);
        x.machine(2, w(0, 1), 4, most);
        x.step(0, 0, 1, 1, costs[0]);
        x.step(0, 1, 0, 2, costs[1]);
        boolean allowed = all <= most;
        String call = " of " + all + ", most " + most;
        due(s, "allows(0, 1 0)" + call, x.allows(0, w(1, 0)), allowed ? 1 : 0);
        due(s, "told(0, 4)" + call, x.told(0, 4), allowed ? 1 : 0);
        due(s, "least(0)" + call, x.least(0), allowed ? all : NONE);
        due(s, "count()" + call, x.count(), allowed ? 1 : 0);
        due(s, "run()" + call, x.run(), allowed ? 2 : FAILED);
      }
    }
  }

  /** Each value costs itself, so that the words are those with a sum of at most MOST. */
  private static void machineWords() {
    String s = "MACHINE: how many of its OPEN WORDS it ALLOWS";
    for (int most = 0; most <= 7; most++) {
      TableChoices x = names(3, 3, 3);
      x.machine(3, w(2, 0, 1), 1, most);
      for (int v = 0; v < 3; v++) x.step(0, 0, v, 0, v);
      int words = 0;
      int behindCut = 0;
      for (int i = 0; i < 27; i++) {
        int[] v = {i % 3, i / 3 % 3, i / 9};
        boolean allowed = v[0] + v[1] + v[2] <= most;
        due(s, "allows(0, " + v[0] + " " + v[1] + " " + v[2] + "), most " + most, x.allows(0, w(v)), allowed ? 1 : 0);
        if (allowed) words++;
        if (allowed && v[0] != 0) behindCut++;
      }
      due(s, "told(0, 4), most " + most, x.told(0, 4), words);
      due(s, "count(), most " + most, x.count(), words);
      due(s, "least(0), most " + most, x.least(0), 0);
      x.cut(2, 6);
      due(s, "told(0, 4) without 0 at the first place, most " + most, x.told(0, 4), behindCut);
      due(s, "least(0) without 0 at the first place, most " + most, x.least(0), most == 0 ? NONE : 1);
      due(s, "run() fails (1), most " + most, x.run() == FAILED ? 1 : 0, most == 0 ? 1 : 0);
      due(s, "domain(0), the second place, most " + most, x.domain(0), most == 0 ? 7 : (1 << Math.min(3, most)) - 1);
    }
  }

  private static void machineLongest() {
    String s = "MACHINE: six STEPS of 100";
    for (int most : new int[] {0, 599, 600, 601, 1000}) {
      TableChoices x = six();
      x.machine(6, rowOf(6), 32, most);
      for (int i = 0; i < 5; i++) x.step(0, i, i, i + 1, 100);
      x.step(0, 5, 5, 5, 100);
      int word = w(0, 1, 2, 3, 4, 5);
      due(s, "allows, most " + most, x.allows(0, word), most >= 600 ? 1 : 0);
      due(s, "least, most " + most, x.least(0), most >= 600 ? 600 : NONE);
      due(s, "next(NONE), most " + most, x.next(NONE), most >= 600 ? word : NONE);
      due(s, "run(), most " + most, x.run(), most >= 600 ? 30 : FAILED);
    }
  }

  private static void machineFull() {
    String s = "MACHINE: the 30th STEP is one, a 31st is none";
    for (int v = 0; v < 6; v++) {
      TableChoices x = names(6);
      x.machine(1, 0, 2, 100);
      for (int i = 0; i < 29; i++) x.step(0, 1, i % 6, 1, 0);
      due(s, "allows(0, " + v + ")", x.allows(0, v), 0);
      due(s, "step by " + v, x.step(0, 0, v, 1, 100), 30);
      due(s, "allows(0, " + v + ")", x.allows(0, v), 1);
      int other = (v + 1) % 6;
      due(s, "step by " + other, x.step(0, 0, other, 1, 0), FULL);
      due(s, "allows(0, " + other + ")", x.allows(0, other), 0);
      due(s, "least(0)", x.least(0), 100);
    }
  }

  /** A word that can go several ways counts once, by its cheapest way to an end. */
  private static void machineWays() {
    String s = "MACHINE: can come to an END at most MOST";
    TableChoices x = names(2, 2);
    x.machine(2, w(0, 1), 48, 10);
    x.step(0, 0, 1, 1, 0);
    x.step(0, 0, 1, 2, 5);
    x.step(0, 1, 1, 3, 0);
    x.step(0, 2, 1, 4, 6);
    due(s, "allows(0, 1 1), the cheap way is to no end, the other at 11", x.allows(0, w(1, 1)), 0);
    x.step(0, 2, 1, 5, 5);
    due(s, "allows(0, 1 1), at 10", x.allows(0, w(1, 1)), 1);
    due(s, "least(0)", x.least(0), 10);
    x.step(0, 1, 1, 5, 9);
    due(s, "least(0), at 9", x.least(0), 9);
    due(s, "told(0, 4)", x.told(0, 4), 1);
    x.step(0, 1, 1, 5, 9);
    due(s, "told(0, 4), a step twice", x.told(0, 4), 1);
    due(s, "told(0, 3), a step twice", x.told(0, 3), 7);
  }

  private static void element() {
    String s = "ELEMENT: i is below how many stand behind the second";
    for (int many = 3; many <= 6; many++) {
      TableChoices x = six();
      x.element(many, rowOf(many));
      for (int i = 0; i < 6; i++) {
        due(s, "allows, i " + i + " of " + many + ", all the same", x.allows(0, with(each(many, 4), 0, i)), i < many - 2 ? 1 : 0);
      }
      int words = 1;
      for (int i = 0; i < many - 2; i++) words *= 6;
      due(s, "told(0, 4) of " + many, x.told(0, 4), (many - 2) * words);
      due(s, "run() of " + many, x.run(), 6 - (many - 2));
      due(s, "domain(0) of " + many, x.domain(0), (1 << many - 2) - 1);
    }
  }

  private static void elementValues() {
    String s = "ELEMENT: the VALUE of the i-th of these (from 0) is that of the second one";
    for (int many = 3; many <= 6; many++) {
      TableChoices x = six();
      x.element(many, rowOf(many));
      for (int i = 0; i < many - 2; i++) {
        int only = with(with(with(0, 0, i), 1, 5), 2 + i, 5);
        due(s, "allows, the meant one alone is the same", x.allows(0, only), 1);
        int others = with(with(each(many, 5), 0, i), 2 + i, 0);
        due(s, "allows, all the others are the same", x.allows(0, others), 0);
        due(s, "allows, one less", x.allows(0, with(only, 2 + i, 4)), 0);
      }
    }
  }

  private static void orderOfOne() {
    String s = "ORDER of 2: before, or, if it is not STRICT, the same";
    TableChoices x = names(6, 6);
    x.order(2, w(0, 1), true);
    x.order(2, w(0, 1), false);
    for (int a = 0; a < 6; a++) {
      for (int b = 0; b < 6; b++) {
        due(s, "strict, " + a + " " + b, x.allows(0, w(a, b)), a < b ? 1 : 0);
        due(s, "not strict, " + a + " " + b, x.allows(1, w(a, b)), a <= b ? 1 : 0);
      }
    }
    TableChoices one = names(1, 1);
    one.order(2, w(0, 1), false);
    due(s, "run() of two names that have 0 alone", one.run(), 0);
    one.order(2, w(0, 1), true);
    due(s, "run(), strict", one.run(), FAILED - 1);
  }

  private static void orderOfHalves() {
    String s = "ORDER: how many words";
    int[] halves = {6, 36, 216};
    for (int i = 0; i < 3; i++) {
      TableChoices x = six();
      x.order(2 * i + 2, rowOf(2 * i + 2), true);
      x.order(2 * i + 2, rowOf(2 * i + 2), false);
      int h = halves[i];
      due(s, "told(0, 4), strict", x.told(0, 4), h * (h - 1) / 2);
      due(s, "told(1, 4), not strict", x.told(1, 4), h * (h + 1) / 2);
      int least = 0;
      int highest = each(2 * i + 2, 5);
      due(s, "allows, all 0, strict", x.allows(0, least), 0);
      due(s, "allows, all 0, not strict", x.allows(1, least), 1);
      due(s, "allows, all 5, strict", x.allows(0, highest), 0);
      due(s, "allows, all 5, not strict", x.allows(1, highest), 1);
    }
  }

  private static void orderEachPlace() {
    String s = "ORDER: by the first place at which they differ";
    for (int half = 1; half <= 3; half++) {
      TableChoices x = six();
      x.order(2 * half, rowOf(2 * half), true);
      x.order(2 * half, rowOf(2 * half), false);
      for (int place = 0; place < half; place++) {
        int word = each(2 * half, 3);
        for (int behind = place + 1; behind < half; behind++) word = with(with(word, behind, 5), half + behind, 0);
        int up = with(word, half + place, 4);
        int down = with(turned(word, half), half + place, 2);
        for (int c = 0; c < 2; c++) {
          due(s, "allows(" + c + "), one more at " + place + " of " + half, x.allows(c, up), 1);
          due(s, "allows(" + c + "), one less at " + place + " of " + half, x.allows(c, down), 0);
        }
      }
    }
  }

  /** The word with its halves changed. */
  private static int turned(int word, int half) {
    return word >>> 3 * half | (word & (1 << 3 * half) - 1) << 3 * half;
  }

  private static void sum() {
    String s = "SUM: all VALUES together are LOW .. HIGH";
    for (int many = 1; many <= 6; many++) {
      TableChoices x = six();
      int top = 5 * many;
      x.sum(many, rowOf(many), 0, 0);
      x.sum(many, rowOf(many), top, top);
      x.sum(many, rowOf(many), 1, top - 1);
      x.sum(many, rowOf(many), 2, 4);
      due(s, "told(0, 4), 0 of " + many, x.told(0, 4), 1);
      due(s, "told(1, 4), " + top + " of " + many, x.told(1, 4), 1);
      int all = 1;
      for (int i = 0; i < many; i++) all *= 6;
      due(s, "told(2, 4), all but both of " + many, x.told(2, 4), all - 2);
      for (int place = 0; place < many; place++) {
        due(s, "allows(0, 1 at " + place + ")", x.allows(0, with(0, place, 1)), 0);
        due(s, "allows(1, 4 at " + place + ")", x.allows(1, with(each(many, 5), place, 4)), 0);
        due(s, "allows(2, 1 at " + place + ")", x.allows(2, with(0, place, 1)), 1);
        due(s, "allows(2, 4 at " + place + ")", x.allows(2, with(each(many, 5), place, 4)), 1);
        for (int v = 0; v < 6; v++) {
          due(s, "allows(3, " + v + " at " + place + ")", x.allows(3, with(0, place, v)), v >= 2 && v <= 4 ? 1 : 0);
        }
      }
      due(s, "allows(0, 0)", x.allows(0, 0), 1);
      due(s, "allows(1, all 5)", x.allows(1, each(many, 5)), 1);
    }
    TableChoices y = names(6, 6, 6, 6, 6, 6);
    y.sum(5, rowOf(5), 26, 30);
    due(s, "told(0, 4), more than five places have", y.told(0, 4), 0);
    y.sum(6, rowOf(6), 30, 30);
    y.sum(6, rowOf(6), 29, 30);
    due(s, "told(1, 4)", y.told(1, 4), 1);
    due(s, "told(2, 4)", y.told(2, 4), 7);
  }

  private static void tally() {
    String s = "TALLY: so many places as have a VALUE v are LOW .. HIGH";
    for (int v = 0; v < 6; v++) {
      int other = (v + 1) % 6;
      for (int many = 1; many <= 6; many++) {
        for (int have = 0; have <= many; have++) {
          int word = 0;
          for (int i = 0; i < many; i++) word |= (i < have ? v : other) << 3 * i;
          TableChoices x = six();
          x.tally(many, rowOf(many), v, have, have);
          if (have > 0) x.tally(many, rowOf(many), v, 0, have - 1);
          else x.tally(many, rowOf(many), v, 1, 6);
          x.tally(many, rowOf(many), v, Math.min(6, have + 1), 6);
          x.tally(many, rowOf(many), v, 0, 6);
          due(s, have + " of " + many + ", LOW and HIGH", x.allows(0, word), 1);
          due(s, have + " of " + many + ", above HIGH (or below LOW)", x.allows(1, word), 0);
          due(s, have + " of " + many + ", below LOW", x.allows(2, word), have == 6 ? 1 : 0);
          due(s, have + " of " + many + ", 0 .. 6", x.allows(3, word), 1);
        }
      }
    }
    TableChoices x = names(6, 6, 6, 6, 6);
    x.tally(5, rowOf(5), 0, 6, 6);
    due(s, "told(0, 4), six of five places", x.told(0, 4), 0);
    due(s, "run()", x.run(), FAILED);
  }

  private static void first() {
    String s = "FIRST: at no place b stands, but where a stands at a place before it";
    for (int many = 1; many <= 6; many++) {
      TableChoices x = six();
      x.first(many, rowOf(many), 5, 0);
      due(s, "neither a nor b", x.allows(0, each(many, 3)), 1);
      due(s, "a at each place", x.allows(0, each(many, 5)), 1);
      due(s, "b at each place", x.allows(0, each(many, 0)), 0);
      for (int b = 0; b < many; b++) {
        due(s, "b alone at " + b, x.allows(0, with(each(many, 3), b, 0)), 0);
        for (int a = 0; a < many; a++) {
          if (a == b) continue;
          int word = with(with(each(many, 3), b, 0), a, 5);
          due(s, "a at " + a + ", b at " + b, x.allows(0, word), a < b ? 1 : 0);
        }
      }
      due(s, "a at 0, b at all others", x.allows(0, with(each(many, 0), 0, 5)), 1);
      due(s, "b at 0, a at all others", x.allows(0, with(each(many, 5), 0, 0)), 0);
    }
  }

  private static void firstAlone() {
    String s = "FIRST of 1 NAME";
    TableChoices x = names(2);
    x.first(1, 0, 1, 0);
    due(s, "run()", x.run(), 1);
    due(s, "domain(0)", x.domain(0), 2);
    TableChoices y = names(1);
    y.first(1, 0, 1, 0);
    due(s, "run(), b is all there is", y.run(), FAILED);
    TableChoices z = names(1);
    z.first(1, 0, 0, 1);
    due(s, "run(), a is all there is", z.run(), 0);
  }

  /** The first name of a row is told by the lowest bits, whatever its number. */
  private static void rowOrder() {
    String s = "the first NAME by its three lowest bits";
    TableChoices x = names(6, 6, 6, 6, 6, 6);
    x.table(6, w(5, 4, 3, 2, 1, 0));
    x.tuple(0, w(0, 1, 2, 3, 4, 5));
    due(s, "run()", x.run(), 30);
    for (int n = 0; n < 6; n++) due(s, "domain(" + n + ")", x.domain(n), 1 << 5 - n);
    due(s, "next(NONE)", x.next(NONE), w(5, 4, 3, 2, 1, 0));
    due(s, "allows(0, 0 1 2 3 4 5), a word by places", x.allows(0, w(0, 1, 2, 3, 4, 5)), 1);
    due(s, "allows(0, 5 4 3 2 1 0)", x.allows(0, w(5, 4, 3, 2, 1, 0)), 0);
  }

  private static void openWords() {
    String s = "OPEN, if each of its VALUES is in the DOMAIN";
    for (int kind = 0; kind < 7; kind++) {
      TableChoices x = names(6, 6, 6);
      x.table(3, rowOf(3));
      x.tuple(0, each(3, 7));
      x.machine(3, rowOf(3), 1, 100);
      for (int v = 0; v < 6; v++) x.step(1, 0, v, 0, 6 - v);
      x.element(3, rowOf(3));
      x.order(2, w(0, 1), false);
      x.sum(3, rowOf(3), 0, 30);
      x.tally(3, rowOf(3), 0, 0, 6);
      x.first(3, rowOf(3), 0, 1);
      for (int n = 0; n < 3; n++) x.cut(n, 1);
      due(s, "told(" + kind + ", 4), one word is open", x.told(kind, 4), 1);
      due(s, "least(1)", x.least(1), 18);
      due("20: DOMAINS do not matter", "allows(4, all 5)", x.allows(4, each(3, 5)), 1);
      due("20: DOMAINS do not matter", "allows(0, all 5)", x.allows(0, each(3, 5)), 1);
      due("20: DOMAINS do not matter", "allows(1, all 5)", x.allows(1, each(3, 5)), 1);
      due("20: DOMAINS do not matter", "allows(2, 0 5 5)", x.allows(2, w(0, 5, 5)), 1);
      due("20: DOMAINS do not matter", "allows(3, 4 5)", x.allows(3, w(4, 5)), 1);
      due("20: DOMAINS do not matter", "allows(5, 5 4 3)", x.allows(5, w(5, 4, 3)), 1);
      due("20: DOMAINS do not matter", "allows(6, 0 1 5)", x.allows(6, w(0, 1, 5)), 1);
    }
  }
}
