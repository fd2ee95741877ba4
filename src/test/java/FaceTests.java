import java.lang.reflect.Constructor;
import java.lang.reflect.Field;
import java.lang.reflect.Method;
import java.lang.reflect.Modifier;
import java.util.Arrays;
import java.util.Set;
import java.util.TreeSet;

/** The public face is the document's and nothing more, and the classes inside keep to rules 1, 2 and 5. */
public final class FaceTests {
  private static final String[] METHODS = {
    "layer/2", "lose/1", "cube/3", "copy/5", "box/3", "well/0", "skin/0", "square/2", "across/3", "cut/3", "cuts/0",
    "open/0", "spot/3", "crease/4", "turn/1", "clear/0", "told/2", "fold/0", "where/2", "closed/0", "form/1", "same/0",
    "shelve/1", "alike/1", "wraps/0", "way/2", "undo/0", "count/1",
  };
  private static final String[] CONSTANTS = {"NONE", "BAD", "NO", "FULL", "NOTHING", "INDEX"};
  private static int wrong = 0;

  public static void main(String[] args) {
    due("the class is public", Modifier.isPublic(CubeCarton.class.getModifiers()));
    due("the class is final", Modifier.isFinal(CubeCarton.class.getModifiers()));
    constructors();
    methods();
    fields(CubeCarton.class);
    for (Class<?> inside : CubeCarton.class.getDeclaredClasses()) inside(inside);
    System.out.println(wrong == 0 ? "the face is the document's" : wrong + " things are not as due");
    if (wrong != 0) System.exit(1);
  }

  private static void due(String what, boolean holds) {
    if (!holds) {
      wrong++;
      System.out.println("not so: " + what);
    }
  }

  private static void constructors() {
    Constructor<?>[] all = CubeCarton.class.getDeclaredConstructors();
    due("one constructor", all.length == 1);
    due("it is public and takes nothing", all.length == 1 && Modifier.isPublic(all[0].getModifiers()) && all[0].getParameterCount() == 0);
  }

  private static void methods() {
    Set<String> seen = new TreeSet<>();
    Set<String> names = new TreeSet<>();
    for (String row : METHODS) names.add(row.substring(0, row.indexOf('/')));
    for (Method m : CubeCarton.class.getDeclaredMethods()) {
      if (Modifier.isPrivate(m.getModifiers()) || m.isSynthetic()) {
        due("no private method is called " + m.getName(), !names.contains(m.getName()));
        continue;
      }
      seen.add(m.getName() + "/" + m.getParameterCount());
      due(m + " is public and not static", Modifier.isPublic(m.getModifiers()) && !Modifier.isStatic(m.getModifiers()));
      due(m + " answers an int", m.getReturnType() == int.class);
      for (Class<?> type : m.getParameterTypes()) due(m + " takes ints", type == int.class);
    }
    due("the methods are " + seen, seen.equals(new TreeSet<>(Arrays.asList(METHODS))));
  }

  private static void fields(Class<?> type) {
    Set<String> seen = new TreeSet<>();
    for (Field f : type.getDeclaredFields()) {
      if (Modifier.isStatic(f.getModifiers())) due(f + " is final", Modifier.isFinal(f.getModifiers()));
      if (!Modifier.isPrivate(f.getModifiers())) seen.add(f.getName());
    }
    if (type == CubeCarton.class) due("the constants are " + seen, seen.equals(new TreeSet<>(Arrays.asList(CONSTANTS))));
  }

  private static void inside(Class<?> type) {
    int marks = type.getModifiers();
    due(type + " is static", Modifier.isStatic(marks));
    due(type + " is private or package-visible", !Modifier.isPublic(marks) && !Modifier.isProtected(marks));
    for (Method m : type.getDeclaredMethods())
      for (String row : METHODS) due(m + " has a name of its own", !m.getName().equals(row.substring(0, row.indexOf('/'))));
    fields(type);
  }
}
