import java.util.ArrayList;
import java.util.List;
import java.util.TreeSet;

/** The document done word by word, with no thought of speed: what TableChoices has to answer. */
final class Naive {
  static final int NONE = -1, BAD = -2, FULL = -3, EMPTY = -4, KEPT = -5, FAILED = -100;

  static final class Rule {
    int kind, many, row;
    int[] names;
    int[] numbers;
    boolean strict;
    final List<int[]> parts = new ArrayList<>();
  }

  static final class Field {
    final List<TreeSet<Integer>> domains = new ArrayList<>();
    final List<int[]> reasons = new ArrayList<>();
    final List<int[]> rounds = new ArrayList<>();

    Field copy() {
      Field other = new Field();
      for (TreeSet<Integer> d : domains) other.domains.add(new TreeSet<>(d));
      for (int[] r : reasons) other.reasons.add(r.clone());
      for (int[] r : rounds) other.rounds.add(r.clone());
      return other;
    }
  }

  Field field = new Field();
  List<Rule> rules = new ArrayList<>();
  List<Field> marks = new ArrayList<>();
  int latest = 0;

  int names() { return field.domains.size(); }

  int clear() {
    int n = rules.size();
    field = new Field();
    rules = new ArrayList<>();
    marks = new ArrayList<>();
    latest = 0;
    return n;
  }

  int name(int values) {
    if (values < 1 || values > 6) return BAD;
    if (!marks.isEmpty()) return KEPT;
    if (names() == 6) return FULL;
    TreeSet<Integer> d = new TreeSet<>();
    int[] r = new int[6];
    for (int v = 0; v < 6; v++) {
      if (v < values) d.add(v);
      r[v] = v < values ? NONE : 11;
    }
    field.domains.add(d);
    field.reasons.add(r);
    field.rounds.add(new int[6]);
    return names() - 1;
  }

  /** The digits of a number of three bits each, or null if bits are set above them. */
  private static int[] digits(int many, int number) {
    long left = number & 0xFFFFFFFFL;
    int[] all = new int[many];
    for (int i = 0; i < many; i++) {
      all[i] = (int) (left % 8);
      left /= 8;
    }
    return left == 0 ? all : null;
  }

  private int[] row(int many, int number) {
    if (many < 1 || many > 6) return null;
    int[] all = digits(many, number);
    if (all == null) return null;
    for (int i = 0; i < many; i++) {
      if (all[i] >= names()) return null;
      for (int j = 0; j < i; j++) if (all[j] == all[i]) return null;
    }
    return all;
  }

  private static int[] word(int many, int number, boolean stars) {
    int[] all = digits(many, number);
    if (all == null) return null;
    for (int v : all) if (v > 5 && !(stars && v == 7)) return null;
    return all;
  }

  private int add(int kind, int many, int row, boolean good, boolean strict, int... numbers) {
    int[] names = row(many, row);
    if (names == null || !good) return BAD;
    if (rules.size() == 10) return FULL;
    Rule r = new Rule();
    r.kind = kind;
    r.many = many;
    r.row = row;
    r.names = names;
    r.numbers = numbers;
    r.strict = strict;
    rules.add(r);
    return rules.size() - 1;
  }

  private static boolean in(int x, int low, int high) { return low <= x && x <= high; }

  int table(int many, int row) { return add(0, many, row, true, false); }

  int machine(int many, int row, int ends, int most) {
    return add(1, many, row, in(ends, 0, 63) && in(most, 0, 1000), false, ends, most);
  }

  int element(int many, int row) { return add(2, many, row, many >= 3, false); }

  int order(int many, int row, boolean strict) {
    return add(3, many, row, many == 2 || many == 4 || many == 6, strict);
  }

  int sum(int many, int row, int low, int high) {
    return add(4, many, row, in(low, 0, 30) && in(high, 0, 30) && low <= high, false, low, high);
  }

  int tally(int many, int row, int value, int low, int high) {
    return add(5, many, row, in(value, 0, 5) && in(low, 0, 6) && in(high, 0, 6) && low <= high, false, value, low, high);
  }

  int first(int many, int row, int a, int b) {
    return add(6, many, row, in(a, 0, 5) && in(b, 0, 5) && a != b, false, a, b);
  }

  private Rule rule(int number, int kind) {
    if (number < 0 || number >= rules.size()) return null;
    Rule r = rules.get(number);
    return kind == NONE || r.kind == kind ? r : null;
  }

  int tuple(int constraint, int word) {
    Rule r = rule(constraint, 0);
    int[] w = r == null ? null : word(r.many, word, true);
    if (w == null) return BAD;
    if (r.parts.size() == 20) return FULL;
    r.parts.add(w);
    return r.parts.size();
  }

  int step(int constraint, int from, int value, int to, int cost) {
    Rule r = rule(constraint, 1);
    if (r == null || !in(from, 0, 5) || !in(value, 0, 5) || !in(to, 0, 5) || !in(cost, 0, 100)) return BAD;
    if (r.parts.size() == 30) return FULL;
    r.parts.add(new int[] {from, value, to, cost});
    return r.parts.size();
  }

  int undo() {
    if (rules.isEmpty()) return NONE;
    rules.remove(rules.size() - 1);
    return rules.size();
  }

  int cut(int name, int set) {
    if (!in(name, 0, names() - 1) || !in(set, 0, 63)) return BAD;
    List<Integer> gone = new ArrayList<>();
    for (int v : field.domains.get(name)) if ((set & 1 << v) == 0) gone.add(v);
    if (gone.size() == field.domains.get(name).size()) return EMPTY;
    for (int v : gone) take(name, v, 10, 0);
    return gone.size();
  }

  private void take(int name, int value, int reason, int round) {
    field.domains.get(name).remove(value);
    field.reasons.get(name)[value] = reason;
    field.rounds.get(name)[value] = round;
  }

  /** The cost of a word by a machine, at most MOST; NONE if it is not allowed. */
  private static int cost(Rule r, int[] w) {
    TreeSet<Integer> at = new TreeSet<>();
    at.add(0);
    for (int v : w) {
      TreeSet<Integer> to = new TreeSet<>();
      for (int both : at) {
        for (int[] s : r.parts) if (s[0] == both % 10 && s[1] == v) to.add((both / 10 + s[3]) * 10 + s[2]);
      }
      at = to;
    }
    for (int both : at) if ((r.numbers[0] & 1 << both % 10) != 0 && both / 10 <= r.numbers[1]) return both / 10;
    return NONE;
  }

  private static boolean allowed(Rule r, int[] w) {
    switch (r.kind) {
      case 0:
        for (int[] t : r.parts) {
          boolean same = true;
          for (int i = 0; i < w.length; i++) same &= t[i] == 7 || t[i] == w[i];
          if (same) return true;
        }
        return false;
      case 1:
        return cost(r, w) != NONE;
      case 2:
        return w[0] < w.length - 2 && w[2 + w[0]] == w[1];
      case 3:
        int half = w.length / 2;
        for (int i = 0; i < half; i++) if (w[i] != w[half + i]) return w[i] < w[half + i];
        return !r.strict;
      case 4:
        int sum = 0;
        for (int v : w) sum += v;
        return in(sum, r.numbers[0], r.numbers[1]);
      case 5:
        int tally = 0;
        for (int v : w) if (v == r.numbers[0]) tally++;
        return in(tally, r.numbers[1], r.numbers[2]);
      default:
        for (int i = 0; i < w.length; i++) {
          if (w[i] != r.numbers[1]) continue;
          boolean before = false;
          for (int j = 0; j < i; j++) before |= w[j] == r.numbers[0];
          if (!before) return false;
        }
        return true;
    }
  }

  /** All open words of some names, the last place going fastest: so in order by the first place. */
  private List<int[]> openWords(int[] names) {
    List<int[]> all = new ArrayList<>();
    all.add(new int[0]);
    for (int name : names) {
      List<int[]> longer = new ArrayList<>();
      for (int[] w : all) {
        for (int v : field.domains.get(name)) {
          int[] more = java.util.Arrays.copyOf(w, w.length + 1);
          more[w.length] = v;
          longer.add(more);
        }
      }
      all = longer;
    }
    return all;
  }

  private List<int[]> allowedOpen(Rule r) {
    List<int[]> all = new ArrayList<>();
    for (int[] w : openWords(r.names)) if (allowed(r, w)) all.add(w);
    return all;
  }

  int run() {
    int went = 0;
    for (latest = 1; ; latest++) {
      int here = 0;
      for (int c = 0; c < rules.size(); c++) {
        Rule r = rules.get(c);
        List<int[]> words = allowedOpen(r);
        if (words.isEmpty()) return FAILED - c;
        for (int place = 0; place < r.many; place++) {
          boolean[] has = new boolean[6];
          for (int[] w : words) has[w[place]] = true;
          for (int v : new ArrayList<>(field.domains.get(r.names[place]))) {
            if (!has[v]) {
              take(r.names[place], v, c, latest);
              here++;
            }
          }
        }
      }
      went += here;
      if (here == 0) return went;
    }
  }

  int mark() {
    if (marks.size() == 8) return FULL;
    marks.add(field.copy());
    return marks.size();
  }

  int back() {
    if (marks.isEmpty()) return NONE;
    field = marks.remove(marks.size() - 1);
    return marks.size();
  }

  int domain(int name) {
    if (!in(name, 0, names() - 1)) return BAD;
    int bits = 0;
    for (int v : field.domains.get(name)) bits += 1 << v;
    return bits;
  }

  int why(int name, int value, int what) {
    if (!in(name, 0, names() - 1) || !in(value, 0, 5) || !in(what, 0, 1)) return BAD;
    return what == 0 ? field.reasons.get(name)[value] : field.rounds.get(name)[value];
  }

  int allows(int constraint, int word) {
    Rule r = rule(constraint, NONE);
    int[] w = r == null ? null : word(r.many, word, false);
    if (w == null) return BAD;
    return allowed(r, w) ? 1 : 0;
  }

  int told(int constraint, int what) {
    Rule r = rule(constraint, NONE);
    if (r == null || !in(what, 0, 4)) return BAD;
    return what == 0 ? r.kind : what == 1 ? r.many : what == 2 ? r.row : what == 3 ? r.parts.size() : allowedOpen(r).size();
  }

  int least(int constraint) {
    Rule r = rule(constraint, 1);
    if (r == null) return BAD;
    int least = NONE;
    for (int[] w : openWords(r.names)) {
      int c = cost(r, w);
      if (c != NONE && (least == NONE || c < least)) least = c;
    }
    return least;
  }

  private List<int[]> solutions() {
    int[] all = new int[names()];
    for (int i = 0; i < all.length; i++) all[i] = i;
    List<int[]> good = new ArrayList<>();
    for (int[] w : openWords(all)) {
      boolean ok = true;
      for (Rule r : rules) {
        int[] part = new int[r.many];
        for (int i = 0; i < r.many; i++) part[i] = w[r.names[i]];
        if (!allowed(r, part)) {
          ok = false;
          break;
        }
      }
      if (ok) good.add(w);
    }
    return good;
  }

  int count() { return solutions().size(); }

  int next(int word) {
    int[] floor = word == NONE ? null : word(names(), word, false);
    if (word != NONE && floor == null) return BAD;
    for (int[] w : solutions()) {
      if (floor == null || java.util.Arrays.compare(w, floor) > 0) {
        int number = 0;
        for (int i = 0; i < w.length; i++) number += w[i] << 3 * i;
        return number;
      }
    }
    return NONE;
  }

  int of(int what) {
    switch (what) {
      case 0: return names();
      case 1: return rules.size();
      case 2: return marks.size();
      case 3: return latest;
      case 4:
        int all = 0;
        for (TreeSet<Integer> d : field.domains) all += d.size();
        return all;
      default: return BAD;
    }
  }
}
