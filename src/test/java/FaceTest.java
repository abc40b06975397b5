import java.lang.reflect.Constructor;
import java.lang.reflect.Field;
import java.lang.reflect.Method;
import java.lang.reflect.Modifier;
import java.util.Arrays;
import java.util.TreeSet;

/** The class has the document's face and no other member that can be seen from outside. */
public final class FaceTest {
  private static final String[] METHODS = {
    "clear()", "name(int)", "table(int,int)", "tuple(int,int)", "machine(int,int,int,int)",
    "step(int,int,int,int,int)", "element(int,int)", "order(int,int,boolean)", "sum(int,int,int,int)",
    "tally(int,int,int,int,int)", "first(int,int,int,int)", "undo()", "cut(int,int)", "run()", "mark()", "back()",
    "domain(int)", "why(int,int,int)", "allows(int,int)", "told(int,int)", "least(int)", "count()", "next(int)", "of(int)"
  };
  private static final String[] CONSTANTS = {"NONE=-1", "BAD=-2", "FULL=-3", "EMPTY=-4", "KEPT=-5", "FAILED=-100"};
  private static int wrong = 0;

  private static void check(boolean good, String text) {
    if (!good) {
      wrong++;
      System.out.println(text);
    }
  }

  public static void main(String[] args) throws IllegalAccessException {
    Class<?> face = TableChoices.class;
    check(Modifier.isPublic(face.getModifiers()) && Modifier.isFinal(face.getModifiers()), "not public and final");
    methods(face);
    constants(face);
    Constructor<?>[] constructors = face.getDeclaredConstructors();
    check(constructors.length == 1 && constructors[0].getParameterCount() == 0
        && Modifier.isPublic(constructors[0].getModifiers()), "constructors: " + Arrays.toString(constructors));
    for (Class<?> inside : face.getDeclaredClasses()) {
      check(Modifier.isStatic(inside.getModifiers()), inside + " is not static");
      check(!Modifier.isPublic(inside.getModifiers()) && !Modifier.isProtected(inside.getModifiers()), inside + " can be seen");
      for (Method m : inside.getDeclaredMethods()) {
        check(!Modifier.isPrivate(m.getModifiers()) || !publicNames().contains(m.getName()), "private method with a public name: " + m);
      }
    }
    System.out.println(wrong == 0 ? "the face is as due" : wrong + " faults of the face");
    if (wrong != 0) System.exit(1);
  }

  private static TreeSet<String> publicNames() {
    TreeSet<String> names = new TreeSet<>();
    for (String m : METHODS) names.add(m.substring(0, m.indexOf('(')));
    return names;
  }

  private static void methods(Class<?> face) {
    TreeSet<String> seen = new TreeSet<>();
    for (Method m : face.getDeclaredMethods()) {
      if (Modifier.isPrivate(m.getModifiers())) {
        check(!publicNames().contains(m.getName()), "private method with a public name: " + m);
        continue;
      }
      check(Modifier.isPublic(m.getModifiers()) && !Modifier.isStatic(m.getModifiers()), "not public: " + m);
      check(m.getReturnType() == int.class, "answers no int: " + m);
      String types = Arrays.toString(m.getParameterTypes()).replace("[", "(").replace("]", ")").replace(" ", "");
      seen.add(m.getName() + types);
    }
    check(seen.equals(new TreeSet<>(Arrays.asList(METHODS))), "methods: " + seen);
  }

  private static void constants(Class<?> face) throws IllegalAccessException {
    TreeSet<String> seen = new TreeSet<>();
    for (Field f : face.getDeclaredFields()) {
      if (Modifier.isPrivate(f.getModifiers())) {
        check(!Modifier.isStatic(f.getModifiers()) || Modifier.isFinal(f.getModifiers()), "static, not final: " + f);
        continue;
      }
      check(Modifier.isPublic(f.getModifiers()) && Modifier.isStatic(f.getModifiers()) && Modifier.isFinal(f.getModifiers()),
          "no public constant: " + f);
      seen.add(f.getName() + "=" + f.getInt(null));
    }
    check(seen.equals(new TreeSet<>(Arrays.asList(CONSTANTS))), "constants: " + seen);
  }
}
