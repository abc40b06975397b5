import java.io.IOException;
import java.lang.reflect.InvocationTargetException;
import java.lang.reflect.Method;
import java.nio.file.Files;
import java.nio.file.Path;
import java.util.Arrays;
import java.util.List;
import java.util.TreeSet;
import java.util.regex.Matcher;
import java.util.regex.Pattern;
import java.util.stream.Collectors;
import java.util.stream.Stream;

/** What README.md says of the class and of its tests is so; it is run from the project's folder. */
public final class ReadmeTest {
  private static final Pattern CALL = Pattern.compile("x\\.(\\w+)\\(([^)]*)\\);\\s*// (-?\\w+)(?::.*)?");
  private static final Pattern LISTED_CALL = Pattern.compile("(?m)^\\| `(\\w+)\\(([^)]*)\\)` \\|");
  private static final Pattern LISTED_TEST = Pattern.compile("(?m)^- `(\\w+Test)`:");
  private static final Pattern JAVA = Pattern.compile("```java\n(.*?)```", Pattern.DOTALL);
  private static int wrong = 0;

  private static void check(boolean good, String text) {
    if (!good) {
      wrong++;
      System.out.println(text);
    }
  }

  public static void main(String[] args) throws IOException, ReflectiveOperationException {
    String text = Files.readString(Path.of("README.md"));
    List<String> examples = JAVA.matcher(text).results().map(r -> r.group(1)).toList();
    check(!examples.isEmpty(), "README.md has no example");
    for (String example : examples) runExample(example);
    callsAreTold(text);
    testsAreTold(text);
    check(Files.isExecutable(Path.of(".ci/run")), ".ci/run can't be run as README.md says");
    System.out.println(wrong == 0 ? "README.md says what is so" : wrong + " faults of README.md");
    if (wrong != 0) System.exit(1);
  }

  private static void runExample(String example) throws ReflectiveOperationException {
    TableChoices x = null;
    for (String line : example.lines().toList()) {
      if (line.equals("TableChoices x = new TableChoices();")) {
        x = new TableChoices();
        continue;
      }
      Matcher m = CALL.matcher(line);
      if (x == null || !m.matches()) {
        check(false, "not a call with its answer: " + line);
        continue;
      }
      int got = answer(x, m.group(1), m.group(2));
      check(got == number(m.group(3)), line + "\n  answered " + got);
    }
  }

  private static int answer(TableChoices x, String name, String arguments)
      throws IllegalAccessException, InvocationTargetException, NoSuchFieldException {
    String[] told = arguments.isEmpty() ? new String[0] : arguments.split(", ");
    Method method = Arrays.stream(TableChoices.class.getMethods()).filter(m -> m.getName().equals(name)).findFirst()
        .orElseThrow(() -> new IllegalArgumentException("README.md calls " + name + ", which the class has not"));
    Object[] given = new Object[told.length];
    for (int i = 0; i < told.length; i++) {
      boolean isFlag = method.getParameterTypes()[i] == boolean.class;
      if (isFlag) given[i] = Boolean.parseBoolean(told[i]);
      else given[i] = number(told[i]);
    }
    return (Integer) method.invoke(x, given);
  }

  /** A number as Java writes it, or a constant of the class. */
  private static int number(String told) throws IllegalAccessException, NoSuchFieldException {
    if (Character.isDigit(told.charAt(told.length() - 1))) return Integer.decode(told);
    return TableChoices.class.getField(told.replace("TableChoices.", "")).getInt(null);
  }

  private static void callsAreTold(String text) {
    TreeSet<String> told = new TreeSet<>();
    for (Matcher m = LISTED_CALL.matcher(text); m.find(); ) {
      int many = m.group(2).isEmpty() ? 0 : m.group(2).split(", ").length;
      check(told.add(m.group(1) + " " + many), m.group(1) + " is told twice");
    }
    TreeSet<String> due = new TreeSet<>();
    for (Method m : TableChoices.class.getDeclaredMethods()) {
      if (java.lang.reflect.Modifier.isPublic(m.getModifiers())) due.add(m.getName() + " " + m.getParameterCount());
    }
    check(told.equals(due), "calls that are told: " + told + "\n  due: " + due);
  }

  private static void testsAreTold(String text) throws IOException {
    TreeSet<String> told = new TreeSet<>();
    for (Matcher m = LISTED_TEST.matcher(text); m.find(); ) told.add(m.group(1));
    try (Stream<Path> files = Files.list(Path.of("src/test/java"))) {
      TreeSet<String> due = files.map(f -> f.getFileName().toString()).filter(f -> f.endsWith("Test.java"))
          .map(f -> f.substring(0, f.length() - 5)).collect(Collectors.toCollection(TreeSet::new));
      check(told.equals(due), "tests that are told: " + told + "\n  due: " + due);
    }
  }
}
