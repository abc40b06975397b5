/**
 * What the tests of boundaries share: telling wrong answers, making objects, and looking at all that one holds. They
 * extend it, as functions of a class without a package can't be imported.
 */
abstract class Checks {
  static final int NONE = -1, BAD = -2, FULL = -3, EMPTY = -4, KEPT = -5, FAILED = -100;
  static final int MIN = Integer.MIN_VALUE, MAX = Integer.MAX_VALUE;

  /** The document promises nothing behind this many calls of one object. */
  private static final int MOST_CALLS = 512;
  private static int wrong = 0;

  interface Make {
    TableChoices make();
  }

  interface Call {
    int on(TableChoices x);
  }

  static void due(String sentence, String call, int got, int want) {
    if (got != want) fault(sentence + ": " + call + " answered " + got + ", due is " + want);
  }

  static void same(String sentence, String what, String got, String want) {
    if (!got.equals(want)) fault(sentence + ": " + what + "\n  is  " + got + "\n  due " + want);
  }

  private static void fault(String text) {
    wrong++;
    System.out.println(text);
  }

  static void end(String allWell) {
    System.out.println(wrong == 0 ? allWell : wrong + " answers are not as due");
    if (wrong != 0) System.exit(1);
  }

  /** The answer is as due, and the object holds what one holds on which the call was not made. */
  static void changesNothing(String sentence, Make state, String call, Call made, int want) {
    TableChoices x = state.make();
    due(sentence, call, made.on(x), want);
    same(sentence, "what there is after " + call, look(x), look(state.make()));
  }

  static void bad(String sentence, Make state, String call, Call made) {
    changesNothing(sentence, state, call, made, BAD);
  }

  /** A row or a word by its places. */
  static int w(int... places) {
    int number = 0;
    for (int i = 0; i < places.length; i++) number |= places[i] << 3 * i;
    return number;
  }

  /** The row of the names 0, 1, .. */
  static int rowOf(int many) {
    int row = 0;
    for (int i = 0; i < many && i < 6; i++) row |= i << 3 * i;
    return row;
  }

  /** The word with the value at each place. */
  static int each(int many, int value) {
    int word = 0;
    for (int i = 0; i < many; i++) word |= value << 3 * i;
    return word;
  }

  /** The word with another value at a place. */
  static int with(int word, int place, int value) {
    return word & ~(7 << 3 * place) | value << 3 * place;
  }

  static TableChoices names(int... values) {
    TableChoices x = new TableChoices();
    for (int v : values) x.name(v);
    return x;
  }

  /** All that an object tells, all that its marks keep, and how much more it takes; it is used up by that. */
  static String look(TableChoices x) {
    return new Look(x).all();
  }

  private static final class Look {
    private final TableChoices x;
    private final StringBuilder seen = new StringBuilder();
    private int calls = 0;

    Look(TableChoices x) { this.x = x; }

    String all() {
      int names = told(x.of(0));
      int constraints = told(x.of(1));
      int marks = told(x.of(2));
      told(x.of(3));
      told(x.of(4));
      choices(names);
      for (int c = 0; c < constraints; c++) constraint(c);
      told(x.count());
      int word = told(x.next(NONE));
      for (int i = 0; i < 8 && word != NONE; i++) word = told(x.next(word));
      for (int m = 0; m < marks; m++) {
        told(x.back());
        choices(names);
      }
      for (int i = names; i < 7; i++) told(x.name(6));
      for (int i = constraints; i < 11; i++) told(x.table(1, 0));
      for (int i = marks; i < 3; i++) told(x.mark());
      if (calls > MOST_CALLS - 100) fault("a look of " + calls + " calls may be one at more than is promised");
      return seen.toString();
    }

    private int told(int answer) {
      calls++;
      seen.append(answer).append(' ');
      return answer;
    }

    private void choices(int names) {
      seen.append("/ ");
      for (int n = 0; n < names; n++) {
        told(x.domain(n));
        for (int v = 0; v < 6; v++) {
          told(x.why(n, v, 0));
          told(x.why(n, v, 1));
        }
      }
    }

    private void constraint(int c) {
      seen.append("| ");
      told(x.told(c, 0));
      int many = told(x.told(c, 1));
      for (int what = 2; what < 5; what++) told(x.told(c, what));
      told(x.least(c));
      for (int i = 0; i < 20; i++) told(x.allows(c, someWord(Math.min(many, 6), i)));
    }

    /** For few places all words with small values, for more of them some that are spread over all. */
    private static int someWord(int many, int i) {
      int left = many < 3 ? i : i * 137;
      int word = 0;
      for (int place = 0; place < many; place++) {
        word |= left % 6 << 3 * place;
        left /= 6;
      }
      return word;
    }
  }
}
