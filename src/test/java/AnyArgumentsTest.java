import java.lang.reflect.InvocationTargetException;
import java.lang.reflect.Method;
import java.util.ArrayList;
import java.util.Arrays;
import java.util.List;

/**
 * Every call with every mixture of numbers at and around the bounds, in states from empty to full: no call throws, and
 * each answers as Naive does. What a call changed is undone behind it, so that the state stays the one that is meant.
 */
public final class AnyArgumentsTest {
  private static final int MIN = Integer.MIN_VALUE, MAX = Integer.MAX_VALUE;
  private static final int[] MANY_NUMBERS = {
    MIN, MIN + 1, -262145, -101, -100, -64, -8, -6, -5, -4, -3, -2, -1, 0, 1, 2, 3, 4, 5, 6, 7, 8, 9, 10, 11, 12, 19, 20,
    21, 29, 30, 31, 32, 33, 49, 53, 62, 63, 64, 65, 99, 100, 101, 136, 209, 511, 512, 999, 1000, 1001, 1672, 34952,
    181896, 187245, 224694, 262143, 262144, 1 << 21, 1 << 29, 1 << 30, MAX - 1, MAX
  };
  private static final int[] SOME_NUMBERS = {
    MIN, -2, -1, 0, 1, 2, 5, 6, 7, 8, 10, 30, 31, 63, 64, 100, 101, 136, 1000, 1001, MAX
  };
  private static final int[] FEW_NUMBERS = {MIN, -1, 0, 1, 5, 6, 30, 31, 100, 101, MAX};
  private static final String[] NAMES = {
    "clear", "name", "table", "tuple", "machine", "step", "element", "order", "sum", "tally", "first", "undo", "cut",
    "run", "mark", "back", "domain", "why", "allows", "told", "least", "count", "next", "of"
  };
  /** Constraints that were added are taken away by undo(), so the calls that make them are not among these. */
  private static final List<String> CHANGING =
      List.of("clear", "name", "tuple", "step", "undo", "cut", "run", "mark", "back");
  private static final int MOST_CALLS = 512;

  /** A call that makes a state. */
  private record Made(String name, Object... arguments) { }

  private final List<Made> state;
  private TableChoices x;
  private Naive due;
  private int calls;
  private static int wrong = 0;
  private static int asked = 0;

  private AnyArgumentsTest(List<Made> state) {
    this.state = state;
  }

  public static void main(String[] args) throws ReflectiveOperationException {
    List<List<Made>> states = List.of(
        List.of(), List.of(new Made("name", 1)), List.of(new Made("mark")), allKinds(), allFull());
    for (List<Made> state : states) new AnyArgumentsTest(state).go();
    System.out.println(wrong == 0 ? asked + " answers are as due" : wrong + " answers are not as due");
    if (wrong != 0) System.exit(1);
  }

  private static List<Made> allKinds() {
    return List.of(
        new Made("name", 2), new Made("name", 3), new Made("name", 2),
        new Made("table", 2, 8), new Made("tuple", 0, 15), new Made("tuple", 0, 8),
        new Made("machine", 3, 136, 5, 9), new Made("step", 1, 0, 0, 1, 3), new Made("step", 1, 1, 1, 0, 3),
        new Made("step", 1, 0, 1, 2, 3), new Made("step", 1, 1, 0, 2, 0),
        new Made("element", 3, 136), new Made("order", 2, 17, false), new Made("sum", 3, 136, 1, 3),
        new Made("tally", 3, 136, 0, 1, 3), new Made("first", 3, 136, 0, 1), new Made("mark"), new Made("run"));
  }

  private static List<Made> allFull() {
    List<Made> calls = new ArrayList<>();
    for (int i = 0; i < 6; i++) calls.add(new Made("name", 1 + i % 2));
    calls.add(new Made("table", 1, 0));
    for (int i = 0; i < 20; i++) calls.add(new Made("tuple", 0, i % 6));
    calls.add(new Made("machine", 6, 181896, 63, 1000));
    for (int i = 0; i < 30; i++) calls.add(new Made("step", 1, i % 5, i % 6, i % 4, i));
    for (int i = 0; i < 8; i++) calls.add(new Made("order", 6, 181896, i % 2 == 1));
    calls.add(new Made("run"));
    for (int i = 0; i < 8; i++) calls.add(new Made("mark"));
    return calls;
  }

  private void go() throws ReflectiveOperationException {
    makeState();
    for (String name : NAMES) {
      Both both = new Both(name);
      mix(both, 0, new Object[both.types.length]);
    }
  }

  private void makeState() throws ReflectiveOperationException {
    x = new TableChoices();
    due = new Naive();
    calls = 0;
    for (Made made : state) compare(new Both(made.name()), made.arguments());
  }

  private void mix(Both both, int at, Object[] arguments) throws ReflectiveOperationException {
    if (at < arguments.length) {
      for (Object one : both.values(at)) {
        arguments[at] = one;
        mix(both, at + 1, arguments);
      }
      return;
    }
    if (calls > MOST_CALLS - 2) makeState();
    int before = due.rules.size();
    int answer = compare(both, arguments);
    if (due.rules.size() > before) compare(new Both("undo"));
    else if (answer >= 0 && CHANGING.contains(both.name)) makeState();
  }

  private int compare(Both both, Object... arguments) throws ReflectiveOperationException {
    calls++;
    asked++;
    int want = (int) both.ofNaive.invoke(due, arguments);
    try {
      int got = (int) both.ofClass.invoke(x, arguments);
      if (got != want) fault(both.name, arguments, "answered " + got + ", due is " + want);
    } catch (InvocationTargetException thrown) {
      fault(both.name, arguments, "threw " + thrown.getCause());
    }
    return want;
  }

  private static void fault(String name, Object[] arguments, String text) {
    wrong++;
    if (wrong < 100) System.out.println(name + Arrays.toString(arguments) + " " + text);
  }

  /** The same call of the class and of the model. */
  private static final class Both {
    final String name;
    final Method ofClass;
    final Method ofNaive;
    final Class<?>[] types;

    Both(String name) {
      this.name = name;
      ofClass = method(TableChoices.class, name);
      ofNaive = method(Naive.class, name);
      types = ofClass.getParameterTypes();
    }

    private static Method method(Class<?> owner, String name) {
      for (Method m : owner.getDeclaredMethods()) if (m.getName().equals(name)) return m;
      throw new IllegalStateException(owner + " has no " + name);
    }

    /** The more arguments there are, the fewer numbers for each of them. */
    List<Object> values(int at) {
      if (types[at] == boolean.class) return List.of(false, true);
      int numbers = 0;
      for (Class<?> type : types) if (type == int.class) numbers++;
      List<Object> all = new ArrayList<>();
      for (int n : numbers < 3 ? MANY_NUMBERS : numbers < 5 ? SOME_NUMBERS : FEW_NUMBERS) all.add(n);
      return all;
    }
  }
}
