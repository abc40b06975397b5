import java.util.Random;

/** Many runs of mixed calls, good and bad ones, each answer beside the one of Naive; what is refused changes nothing. */
public final class AgainstNaiveTest {
  private static final int[] ODD = {
    -1, -2, 6, 7, 8, 9, 10, 31, 63, 64, 101, 1001, 1 << 18, 1 << 21, Integer.MAX_VALUE, Integer.MIN_VALUE, -3, 262143
  };
  private static final int CALLS = 512;

  private final Random random;
  private final int mostValues;
  private final int oddEvery;
  private final TableChoices x = new TableChoices();
  private final Naive due = new Naive();
  private final StringBuilder calls = new StringBuilder();
  private static int wrong = 0;
  private static int asked = 0;

  private AgainstNaiveTest(long seed, int mostValues, int oddEvery) {
    random = new Random(seed);
    this.mostValues = mostValues;
    this.oddEvery = oddEvery;
  }

  public static void main(String[] args) {
    for (int seed = 0; seed < 500; seed++) new AgainstNaiveTest(seed, 3, 30).go(seed);
    for (int seed = 500; seed < 700; seed++) new AgainstNaiveTest(seed, 4, 8).go(seed);
    for (int seed = 700; seed < 740; seed++) new AgainstNaiveTest(seed, 5, 100).go(seed);
    for (int seed = 740; seed < 750; seed++) new AgainstNaiveTest(seed, 6, 100).go(seed);
    System.out.println(wrong == 0 ? asked + " answers are as due" : wrong + " runs have an answer that is not as due");
    if (wrong != 0) System.exit(1);
  }

  private void go(int seed) {
    for (int i = 0; i < CALLS; i++) {
      asked++;
      String fault;
      try {
        fault = i < 8 && random.nextInt(4) != 0 ? name() : call(i);
      } catch (RuntimeException thrown) {
        fault = "threw " + thrown;
      }
      if (fault == null && i % 8 == 0) fault = sameState();
      if (fault != null) {
        wrong++;
        System.out.println("seed " + seed + ", call " + i + ": " + fault + " after" + calls);
        return;
      }
    }
  }

  private String same(String call, int got, int want) {
    calls.append("\n  ").append(call).append(" = ").append(want);
    if (got != want) return call + " answered " + got + ", due is " + want;
    return want <= Naive.BAD && want >= Naive.KEPT ? sameState() : null;
  }

  /** Asks all that costs little to ask. */
  private String sameState() {
    for (int what = 0; what < 5; what++) if (x.of(what) != due.of(what)) return "of(" + what + ") = " + x.of(what);
    for (int n = 0; n < due.names(); n++) {
      if (x.domain(n) != due.domain(n)) return "domain(" + n + ") = " + x.domain(n);
      for (int v = 0; v < 6; v++) {
        for (int what = 0; what < 2; what++) {
          if (x.why(n, v, what) != due.why(n, v, what)) return "why(" + n + ", " + v + ", " + what + ") = " + x.why(n, v, what);
        }
      }
    }
    for (int c = 0; c < due.rules.size(); c++) {
      for (int what = 0; what < 4; what++) {
        if (x.told(c, what) != due.told(c, what)) return "told(" + c + ", " + what + ") = " + x.told(c, what);
      }
    }
    return null;
  }

  private boolean odd() { return random.nextInt(oddEvery) == 0; }

  private int upTo(int high) { return odd() ? ODD[random.nextInt(ODD.length)] : random.nextInt(high + 1); }

  private int many() {
    int names = due.names();
    return odd() ? ODD[random.nextInt(ODD.length)] : names == 0 ? 1 : 1 + random.nextInt(names);
  }

  private int row(int many) {
    if (odd()) return random.nextBoolean() ? random.nextInt(1 << 18) : ODD[random.nextInt(ODD.length)];
    int row = 0;
    int used = 0;
    for (int i = 0; i < many && i < due.names(); i++) {
      int n = random.nextInt(due.names());
      while ((used & 1 << n) != 0) n = (n + 1) % due.names();
      used |= 1 << n;
      row |= n << 3 * i;
    }
    return row;
  }

  private int word(int many, int stars) {
    if (odd()) return random.nextBoolean() ? random.nextInt(1 << 3 * Math.max(0, Math.min(many, 6)) + 1) : ODD[random.nextInt(ODD.length)];
    int word = 0;
    for (int i = 0; i < many; i++) {
      int v = random.nextInt(100) < stars ? 7 : random.nextInt(random.nextInt(12) == 0 ? 6 : mostValues);
      word |= v << 3 * i;
    }
    return word;
  }

  private int constraint(int kind) {
    if (odd() || due.rules.isEmpty()) return upTo(9);
    int at = random.nextInt(due.rules.size());
    for (int i = 0; i < due.rules.size() && kind >= 0; i++) {
      int c = (at + i) % due.rules.size();
      if (due.rules.get(c).kind == kind) return c;
    }
    return at;
  }

  private int manyOf(int c) { return c >= 0 && c < due.rules.size() ? due.rules.get(c).many : 2; }

  private String name() {
    int values = odd() ? ODD[random.nextInt(ODD.length)] : 1 + random.nextInt(mostValues);
    if (random.nextInt(3) == 0) values = mostValues;
    return same("name(" + values + ")", x.name(values), due.name(values));
  }

  private String call(int i) {
    int c;
    int w;
    int a;
    int b;
    switch (random.nextInt(40)) {
      case 0:
        return random.nextInt(10) != 0 ? same("of(0)", x.of(0), due.of(0)) : same("clear()", x.clear(), due.clear());
      case 1: case 2:
        return name();
      case 3: case 4: case 5:
        return constraintCall();
      case 6: case 7: case 8: case 9: case 10: case 11:
        c = constraint(0);
        w = word(manyOf(c), random.nextInt(2) * 40);
        return same("tuple(" + c + ", " + w + ")", x.tuple(c, w), due.tuple(c, w));
      case 12: case 13: case 14: case 15: case 16: case 17: case 18:
        return stepCall();
      case 19:
        return random.nextInt(3) == 0 ? same("undo()", x.undo(), due.undo()) : constraintCall();
      case 20: case 21:
        a = upTo(Math.max(0, due.names() - 1));
        b = random.nextInt(3) == 0 ? upTo(63) : odd() ? 0 : 63 & ~(1 << random.nextInt(mostValues));
        return same("cut(" + a + ", " + b + ")", x.cut(a, b), due.cut(a, b));
      case 22: case 23: case 24:
        return same("run()", x.run(), due.run());
      case 25: case 26:
        return same("mark()", x.mark(), due.mark());
      case 27: case 28:
        return same("back()", x.back(), due.back());
      case 29:
        a = upTo(5);
        return same("domain(" + a + ")", x.domain(a), due.domain(a));
      case 30:
        return whyCall();
      case 31: case 32: case 33:
        c = constraint(NONE_KIND);
        w = word(manyOf(c), 0);
        return same("allows(" + c + ", " + w + ")", x.allows(c, w), due.allows(c, w));
      case 34: case 35:
        c = constraint(NONE_KIND);
        a = random.nextBoolean() ? 4 : upTo(5);
        return same("told(" + c + ", " + a + ")", x.told(c, a), due.told(c, a));
      case 36:
        c = constraint(random.nextInt(4) == 0 ? NONE_KIND : 1);
        return same("least(" + c + ")", x.least(c), due.least(c));
      case 37:
        return same("count()", x.count(), due.count());
      case 38:
        w = random.nextInt(6) == 0 ? -1 : word(due.names(), 0);
        return same("next(" + w + ")", x.next(w), due.next(w));
      default:
        a = upTo(5);
        return same("of(" + a + ")", x.of(a), due.of(a));
    }
  }

  private static final int NONE_KIND = -1;

  private String whyCall() {
    int a = upTo(5);
    int b = upTo(5);
    int c = upTo(1);
    return same("why(" + a + ", " + b + ", " + c + ")", x.why(a, b, c), due.why(a, b, c));
  }

  private String stepCall() {
    int c = constraint(1);
    int f = upTo(random.nextInt(3) == 0 ? 5 : 2);
    int v = upTo(random.nextInt(5) == 0 ? 5 : mostValues - 1);
    int t = upTo(random.nextInt(3) == 0 ? 5 : 2);
    int cost = random.nextInt(4) == 0 ? upTo(100) : upTo(9);
    return same("step(" + c + ", " + f + ", " + v + ", " + t + ", " + cost + ")", x.step(c, f, v, t, cost), due.step(c, f, v, t, cost));
  }

  private String constraintCall() {
    int many = many();
    int row = row(many);
    String head = many + ", " + row;
    int a;
    int b;
    int d;
    switch (random.nextInt(9)) {
      case 0: case 1:
        return same("table(" + head + ")", x.table(many, row), due.table(many, row));
      case 2: case 3:
        a = upTo(63);
        b = random.nextInt(3) == 0 ? upTo(1000) : upTo(30);
        return same("machine(" + head + ", " + a + ", " + b + ")", x.machine(many, row, a, b), due.machine(many, row, a, b));
      case 4:
        return same("element(" + head + ")", x.element(many, row), due.element(many, row));
      case 5:
        boolean strict = random.nextBoolean();
        return same("order(" + head + ", " + strict + ")", x.order(many, row, strict), due.order(many, row, strict));
      case 6:
        a = upTo(random.nextInt(3) == 0 ? 30 : 6);
        b = odd() ? upTo(30) : a + upTo(8);
        return same("sum(" + head + ", " + a + ", " + b + ")", x.sum(many, row, a, b), due.sum(many, row, a, b));
      case 7:
        d = upTo(mostValues - 1);
        a = upTo(3);
        b = odd() ? upTo(6) : a + upTo(3);
        return same("tally(" + head + ", " + d + ", " + a + ", " + b + ")", x.tally(many, row, d, a, b), due.tally(many, row, d, a, b));
      default:
        a = upTo(mostValues - 1);
        b = upTo(mostValues - 1);
        return same("first(" + head + ", " + a + ", " + b + ")", x.first(many, row, a, b), due.first(many, row, a, b));
    }
  }
}
