import java.lang.reflect.Constructor;
import java.lang.reflect.Field;
import java.lang.reflect.Method;
import java.lang.reflect.Modifier;
import java.util.ArrayList;
import java.util.List;
import java.util.Set;
import java.util.TreeSet;
import java.util.regex.Matcher;
import java.util.regex.Pattern;

/** The rules of ../shared/LANGUAGE.md that can be seen from the source's words or from the class itself. */
public final class RuleTests extends Checks {
  public static void main(String[] args) {
    runTests(RuleTests.class, "rule");
  }

  private static List<Class<?>> classes() {
    List<Class<?>> all = new ArrayList<>(List.of(CubeCarton.class));
    all.addAll(List.of(CubeCarton.class.getDeclaredClasses()));
    return all;
  }

  private static String code() { return String.join("\n", Texts.code(Texts.SOURCE)); }

  private static Set<String> found(String pattern) {
    Set<String> found = new TreeSet<>();
    Matcher m = Pattern.compile(pattern).matcher(code());
    while (m.find()) found.add(m.group(1));
    return found;
  }

  static void rule1NoPrivateMethodHasThePublicOnesNames() {
    Set<String> names = new TreeSet<>();
    for (Method m : CubeCarton.class.getMethods()) if (m.getDeclaringClass() == CubeCarton.class) names.add(m.getName());
    for (Class<?> type : classes()) for (Method m : type.getDeclaredMethods())
      if (type != CubeCarton.class || Modifier.isPrivate(m.getModifiers())) due(m + " has a name of its own", names.contains(m.getName()), false);
  }

  static void rule2ClassesInsideAreStaticAndThereAreNoLambdas() {
    for (Class<?> inside : CubeCarton.class.getDeclaredClasses()) {
      due(inside + " is static", Modifier.isStatic(inside.getModifiers()), true);
      due(inside + " has classes inside", inside.getDeclaredClasses().length, 0);
    }
    due("lambdas and method references", found("(->|::)"), Set.of());
  }

  static void rule3FieldsAreOfTheTypesThatAreLeft() {
    for (Class<?> type : classes()) for (Field f : type.getDeclaredFields()) {
      Class<?> kind = f.getType().isArray() ? f.getType().getComponentType() : f.getType();
      due(f + " is of a number, a boolean, an own class, or a row of these", kind.isPrimitive() || classes().contains(kind), true);
      due(f + " is of a double or float", kind == double.class || kind == float.class, false);
    }
  }

  static void rule4OnlyTheListedLibraryIsUsed() {
    due("imports", found("import ([\\w.]+);"), Set.of("java.util.Arrays"));
    Set<String> allowed = Set.of("System.arraycopy", "Arrays.fill", "Arrays.copyOf", "Arrays.copyOfRange", "Math.min", "Math.max", "Math.abs", "Math.floorDiv",
      "Math.floorMod", "Integer.bitCount", "Long.bitCount", "Integer.compare");
    for (String call : found("\\b((?:System|Arrays|Math|Integer|Long|String|Character|Thread|Runtime|Object)\\.\\w+)")) due(call + " is listed", allowed.contains(call), true);
  }

  static void rule5StaticFieldsAreFinal() {
    for (Class<?> type : classes()) for (Field f : type.getDeclaredFields())
      if (Modifier.isStatic(f.getModifiers())) due(f + " is final", Modifier.isFinal(f.getModifiers()), true);
    due("static blocks", found("(static\\s*\\{)"), Set.of());
  }

  static void rule6NothingIsThrownOrCaught() {
    due("words", found("\\b(throws?|try|catch|finally|synchronized|assert|native|volatile|instanceof|equals|hashCode|toString|strictfp)\\b"), Set.of());
  }

  static void rule8NothingCallsItself() {
    String name = "";
    for (String line : Texts.code(Texts.SOURCE)) {
      Matcher head = Pattern.compile(" {4,8}(?:[\\w\\[\\]]+ )+(\\w+)\\(.*\\{").matcher(line);
      if (head.matches()) name = head.group(1);
      else if (!name.isEmpty()) due("a call of " + name + " in itself: " + line, line.matches(".*(?<![.\\w])" + name + "\\(.*"), false);
    }
  }

  static void rule9LoopsWithoutACounterAreBounded() {
    due("while loops", found("(while \\(.*)"), Set.of("while (at > 0 && keys[at - 1] > key) {"));
    due("for loops without an end", found("(for \\([^;:]*;\\s*;.*)"), Set.of());
  }

  static void rule11SevenParametersSixtyLinesTwelveClassesTwentyFields() {
    due("at most twelve classes", classes().size() <= 12, true);
    for (Class<?> type : classes()) {
      int fields = 0;
      for (Field f : type.getDeclaredFields()) fields += Modifier.isStatic(f.getModifiers()) ? 0 : 1;
      due(type + " has at most twenty fields", fields <= 20, true);
      for (Method m : type.getDeclaredMethods()) due(m + " takes at most seven", m.getParameterCount() <= 7, true);
      for (Constructor<?> c : type.getDeclaredConstructors()) due(c + " takes at most seven", c.getParameterCount() <= 7, true);
    }
    int begin = 0, number = 0;
    for (String line : Texts.code(Texts.SOURCE)) {
      number++;
      if (line.matches("( {4}| {8})\\S.*\\w\\(.*\\{")) begin = number;
      if (line.matches(" {4}\\}| {8}\\}") && begin > 0) due("the method in line " + begin + " has at most sixty lines", number - begin < 60, true);
    }
  }

  /** "make rows in constructors and use them again" */
  static void rule12ObjectsAreMadeInConstructorsAlone() {
    Set<String> names = new TreeSet<>();
    for (Class<?> type : classes()) names.add(type.getSimpleName());
    boolean inConstructor = false;
    int made = 0;
    for (String line : Texts.code(Texts.SOURCE)) {
      Matcher head = Pattern.compile(" {4,8}(?:public )?(\\w+)\\(.*\\) \\{").matcher(line);
      if (head.matches()) inConstructor = names.contains(head.group(1));
      else if (line.matches(" {4,8}(?!for|if|while|switch)\\S.*\\(.*\\) \\{")) inConstructor = false;
      if (!line.matches(".*\\bnew\\b.*")) continue;
      made++;
      due("in a constructor: " + line, inConstructor, true);
    }
    due("objects are made", made > 20, true);
  }

  static void rule13AllCharactersArePlain() {
    for (String line : Texts.lines(Texts.SOURCE)) due("plain characters alone: " + line, line.matches("[ -~]*"), true);
  }
}
