import java.lang.reflect.Field;
import java.lang.reflect.Method;
import java.lang.reflect.Modifier;
import java.util.Arrays;
import java.util.TreeSet;

/** The public face is the document's, and nothing else can be seen from outside. */
public final class FencedWordsFace {
  private static final String[] METHODS = {
      "boolean arm(int, long)", "int begin()", "int snapshot(int, int)", "int store(int, long)", "int commit()", "int abort()",
      "int recover()", "boolean on()", "boolean open()", "long seen(int)", "long kept(int)", "int records()", "int taken()",
      "int meter()"};
  private static final String[] CONSTANTS = {"int DONE = 0", "int REFUSED = -1", "int LOST = -2"};

  public static void main(String[] args) throws Exception {
    boolean right = same("methods", METHODS, methods());
    right &= same("constants", CONSTANTS, constants());
    right &= same("constructors", new String[] {"public FencedWords()"},
        new TreeSet<>(Arrays.asList(FencedWords.class.getDeclaredConstructors()[0].toString())));
    right &= FencedWords.class.getDeclaredConstructors().length == 1;
    int modifiers = FencedWords.class.getModifiers();
    right &= Modifier.isPublic(modifiers) && Modifier.isFinal(modifiers);
    right &= noPrivateMethodBearsAPublicName();
    right &= keepsToTheLanguage(FencedWords.class);
    for (Class<?> inside : FencedWords.class.getDeclaredClasses()) {
      right &= isHiddenAndStatic(inside);
      right &= keepsToTheLanguage(inside);
    }
    System.out.println(right ? "the face is as due" : "the face is not as due");
    if (!right) {
      System.exit(1);
    }
  }

  private static TreeSet<String> methods() {
    TreeSet<String> found = new TreeSet<>();
    for (Method m : FencedWords.class.getDeclaredMethods()) {
      if (!Modifier.isPrivate(m.getModifiers()) && !m.isSynthetic()) {
        String types = Arrays.toString(m.getParameterTypes());
        found.add(m.getReturnType() + " " + m.getName() + "(" + types.substring(1, types.length() - 1) + ")");
      }
    }
    return found;
  }

  private static TreeSet<String> constants() throws Exception {
    TreeSet<String> found = new TreeSet<>();
    for (Field f : FencedWords.class.getDeclaredFields()) {
      if (!Modifier.isPrivate(f.getModifiers()) && !f.isSynthetic()) {
        found.add(f.getType() + " " + f.getName() + " = " + f.get(null));
      }
    }
    return found;
  }

  private static boolean noPrivateMethodBearsAPublicName() {
    TreeSet<String> names = new TreeSet<>();
    for (Method m : FencedWords.class.getMethods()) {
      names.add(m.getName());
    }
    boolean right = true;
    for (Method m : FencedWords.class.getDeclaredMethods()) {
      if (Modifier.isPrivate(m.getModifiers()) && names.contains(m.getName())) {
        System.out.println("private method with a public name: " + m.getName());
        right = false;
      }
    }
    return right;
  }

  private static boolean isHiddenAndStatic(Class<?> inside) {
    int modifiers = inside.getModifiers();
    boolean right = Modifier.isStatic(modifiers) && !Modifier.isPublic(modifiers) && !Modifier.isProtected(modifiers);
    return holds(inside + " is static and can't be seen from outside", right);
  }

  private static boolean keepsToTheLanguage(Class<?> c) {
    boolean right = true;
    int fields = 0;
    for (Field f : c.getDeclaredFields()) {
      if (Modifier.isStatic(f.getModifiers())) {
        right &= holds("static " + f.getName() + " is final", Modifier.isFinal(f.getModifiers()));
      } else {
        fields++;
      }
    }
    right &= holds(c + " has at most twenty fields", fields <= 20);
    for (Method m : c.getDeclaredMethods()) {
      right &= holds(m.getName() + " takes at most seven parameters", m.getParameterCount() <= 7);
      // A lambda leaves a synthetic method behind.
      right &= holds(m.getName() + " is written out", !m.isSynthetic());
    }
    return right;
  }

  private static boolean holds(String rule, boolean right) {
    if (!right) {
      System.out.println("does not hold: " + rule);
    }
    return right;
  }

  private static boolean same(String what, String[] due, TreeSet<String> found) {
    TreeSet<String> wanted = new TreeSet<>(Arrays.asList(due));
    if (!wanted.equals(found)) {
      System.out.println(what + ": found " + found + ", due is " + wanted);
      return false;
    }
    return true;
  }
}
