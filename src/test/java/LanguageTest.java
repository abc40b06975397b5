import java.io.IOException;
import java.nio.file.Files;
import java.nio.file.Path;
import java.util.ArrayList;
import java.util.List;
import java.util.Map;
import java.util.Set;
import java.util.TreeMap;
import java.util.TreeSet;
import java.util.regex.Matcher;
import java.util.regex.Pattern;

/** The rules of LANGUAGE.md that can be seen in the text of the class; it is run from the project's folder. */
public final class LanguageTest {
  private static final String FILE = "src/main/java/TableChoices.java";
  private static final String[][] FORBIDDEN = {
    {"1", "\\bpackage\\b|\\bprotected\\b"},
    {"2", "->|::|\\bnew\\s+\\w+\\s*\\([^)]*\\)\\s*\\{"},
    {"3", "\\[\\]\\s*\\[\\]\\s*\\[\\]|\\bvar\\b|\\bObject\\b"},
    {"4", "\\bimport\\b|@|\\w+Exact\\b|\\b(?:Math|Integer|Long|System|Arrays)\\.(?!min\\b|max\\b|bitCount\\b|arraycopy\\b|fill\\b)"},
    {"5", "\\bstatic\\s*\\{|\\bprivate static (?!final |int |boolean |void |abstract |class )"},
    {"6", "\\b(?:throw|throws|try|catch|finally|synchronized|assert)\\b|\\bhashCode\\b|\\btoString\\b|\\bequals\\b"},
    {"9", "while\\s*\\(\\s*true\\s*\\)|for\\s*\\(\\s*;"},
    {"13", "\\b(?:Random|Thread|nanoTime|currentTimeMillis|getenv|identityHashCode)\\b"},
  };
  private static final Pattern HEAD = Pattern.compile("^( {4}| {8})(?:[a-z\\[\\]A-Z]+ )*(\\w+)\\(([^)]*)\\) \\{$");
  /** By a method's name: the names of all that its body calls; methods of one name are taken for one. */
  private static final Map<String, Set<String>> CALLS = new TreeMap<>();
  private static int wrong = 0;

  private static void fault(String rule, String text) {
    wrong++;
    System.out.println("rule " + rule + ": " + text);
  }

  public static void main(String[] args) throws IOException {
    String text = Files.readString(Path.of(FILE));
    String code = withoutComments(text);
    for (String[] rule : FORBIDDEN) {
      Matcher m = Pattern.compile(rule[1]).matcher(code);
      while (m.find()) fault(rule[0], "'" + m.group() + "' in line " + code.substring(0, m.start()).lines().count());
    }
    Matcher classes = Pattern.compile("\\b(?:class|record|enum|interface) [A-Z]\\w*").matcher(code);
    long many = classes.results().count();
    if (many > 12) fault("11", many + " classes");
    methods(code.lines().toList());
    System.out.println(wrong == 0 ? "the rules are kept" : wrong + " faults");
    if (wrong != 0) System.exit(1);
  }

  /** Lines stay lines, so that a fault can be told by its line. */
  private static String withoutComments(String text) {
    Matcher m = Pattern.compile("/\\*.*?\\*/|//[^\\n]*", Pattern.DOTALL).matcher(text);
    return m.replaceAll(r -> r.group().replaceAll("[^\\n]", ""));
  }

  private static void methods(List<String> lines) {
    for (int i = 0; i < lines.size(); i++) {
      Matcher m = HEAD.matcher(lines.get(i));
      if (!m.find()) continue;
      if (m.group(3).split(",").length > 7) fault("11", "parameters in line " + (i + 1));
      int end = i;
      while (end < lines.size() && !lines.get(end).equals(m.group(1) + "}")) end++;
      if (end - i > 60) fault("11", (end - i) + " lines of a method from line " + (i + 1));
      Set<String> called = CALLS.computeIfAbsent(m.group(2), name -> new TreeSet<>());
      Matcher call = Pattern.compile("(\\w+)\\(").matcher(String.join("\n", lines.subList(i + 1, end)));
      while (call.find()) called.add(call.group(1));
    }
    for (String name : CALLS.keySet()) {
      List<String> chain = longest(name, List.of());
      if (chain.size() > 8) fault("11", "calls " + chain.size() + " deep: " + chain);
    }
  }

  /** The longest chain of calls that goes on from one, with none twice, so that a recursion is gone into once. */
  private static List<String> longest(String name, List<String> before) {
    List<String> chain = new ArrayList<>(before);
    chain.add(name);
    List<String> best = chain;
    for (String called : CALLS.get(name)) {
      if (!CALLS.containsKey(called) || chain.contains(called)) continue;
      List<String> longer = longest(called, chain);
      if (longer.size() > best.size()) best = longer;
    }
    return best;
  }
}
