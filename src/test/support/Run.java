import java.lang.reflect.InvocationTargetException;
import java.lang.reflect.Method;
import java.lang.reflect.Modifier;
import java.util.ArrayList;
import java.util.Arrays;
import java.util.HashMap;
import java.util.List;
import java.util.Map;

/** An object and the calls made on it so far, so that others like it can be made by the same calls. */
final class Run {
  // What an object answers behind its 512th call is free, so no test may look at it.
  private static final int MOST_CALLS = 512;
  private static final Map<String, Method> FACE = face();

  private final CubeCarton carton = new CubeCarton();
  private final List<String> names = new ArrayList<>();
  private final List<int[]> numbers = new ArrayList<>();

  private static Map<String, Method> face() {
    Map<String, Method> face = new HashMap<>();
    for (Method m : CubeCarton.class.getDeclaredMethods()) if (Modifier.isPublic(m.getModifiers())) face.put(m.getName(), m);
    return face;
  }

  int call(String name, int... a) {
    if (names.size() >= MOST_CALLS) throw new IllegalStateException("a test makes more than " + MOST_CALLS + " calls");
    names.add(name);
    numbers.add(a.clone());
    try {
      return (Integer) FACE.get(name).invoke(carton, Arrays.stream(a).boxed().toArray());
    } catch (InvocationTargetException e) {
      throw new IllegalStateException(this + " threw", e.getCause());
    } catch (IllegalAccessException e) {
      throw new IllegalStateException(e);
    }
  }

  int calls() { return names.size(); }

  /** For rows of calls whose answers are not looked at. */
  Run with(String name, int... a) {
    call(name, a);
    return this;
  }

  Run twin() {
    Run twin = new Run();
    for (int i = 0; i < names.size(); i++) twin.call(names.get(i), numbers.get(i));
    return twin;
  }

  static String told(String name, int... a) {
    String row = Arrays.toString(a);
    return name + "(" + row.substring(1, row.length() - 1) + ")";
  }

  @Override
  public String toString() {
    List<String> calls = new ArrayList<>();
    for (int i = 0; i < names.size(); i++) calls.add(told(names.get(i), numbers.get(i)));
    int gap = calls.size() - 16;
    if (gap > 1) {
      calls.subList(8, 8 + gap).clear();
      calls.add(8, ".. " + gap + " calls more ..");
    }
    return calls.toString();
  }
}
