import java.lang.reflect.Constructor;
import java.lang.reflect.Field;
import java.lang.reflect.Method;
import java.lang.reflect.Modifier;
import java.util.ArrayList;
import java.util.Arrays;
import java.util.LinkedHashMap;
import java.util.List;
import java.util.Map;
import java.util.Set;
import java.util.TreeMap;
import java.util.TreeSet;
import java.util.regex.Matcher;
import java.util.regex.Pattern;

/** The public face is what the code block of the document has, and nothing more. */
public final class FaceTests extends Checks {
  public static void main(String[] args) {
    runTests(FaceTests.class, "face");
  }

  private static List<String> documentsBlock() {
    List<String> block = new ArrayList<>();
    for (String line : Texts.blocks(Texts.DOCUMENT, "java").get(0)) if (!line.isBlank()) block.add(line.strip());
    return block;
  }

  /** As the document writes them: int layer(int z, int bits); names of parameters are no part of the class. */
  private static Set<String> documentsMethods() {
    Set<String> methods = new TreeSet<>();
    for (String line : documentsBlock()) {
      Matcher m = Pattern.compile("public int (\\w+)\\((.*)\\);").matcher(line);
      if (m.matches()) methods.add(m.group(1) + "(" + m.group(2).replaceAll("int \\w+", "int") + ")");
    }
    return methods;
  }

  static void faceInTheSourceIsTheDocumentsLineByLine() {
    List<String> source = new ArrayList<>();
    for (String line : Texts.code(Texts.SOURCE)) {
      if (line.startsWith("public ")) source.add(line.strip());
      if (line.startsWith("    public ")) source.add(line.strip().replaceAll(" \\{$", ";"));
    }
    source.add("}");
    due("the public lines of the source", source, documentsBlock());
  }

  static void faceIsThatOfAPublicFinalClassWithoutPackage() {
    int marks = CubeCarton.class.getModifiers();
    due("the class is public, final, and not abstract", List.of(Modifier.isPublic(marks), Modifier.isFinal(marks), Modifier.isAbstract(marks)), List.of(true, true, false));
    due("its package", CubeCarton.class.getPackageName(), "");
    due("what it extends", CubeCarton.class.getSuperclass(), Object.class);
    due("what it implements", CubeCarton.class.getInterfaces().length, 0);
  }

  static void faceHasTheDocumentsConstantsWithTheirValues() throws IllegalAccessException {
    Map<String, Integer> want = new TreeMap<>(), got = new TreeMap<>();
    for (String line : documentsBlock()) {
      if (!line.startsWith("public static final int ")) continue;
      Matcher m = Pattern.compile("(\\w+) = (-?\\d+)").matcher(line);
      while (m.find()) want.put(m.group(1), Integer.valueOf(m.group(2)));
    }
    for (Field f : CubeCarton.class.getFields()) {
      int marks = f.getModifiers();
      due(f + " is static, final and an int", Modifier.isStatic(marks) && Modifier.isFinal(marks) && f.getType() == int.class, true);
      got.put(f.getName(), f.getInt(null));
    }
    due("the constants", got, want);
    due("the constants, by hand", got, new TreeMap<>(CONSTANTS));
  }

  static void faceHasOneConstructorThatTakesNothing() {
    Constructor<?>[] all = CubeCarton.class.getDeclaredConstructors();
    due("constructors", all.length, 1);
    due("it is public", Modifier.isPublic(all[0].getModifiers()), true);
    due("its parameters", all[0].getParameterCount(), 0);
    due("what it says that it throws", all[0].getExceptionTypes().length, 0);
  }

  static void faceHasTheDocumentsMethodsAndNoOthers() {
    Set<String> got = new TreeSet<>();
    for (Method m : CubeCarton.class.getDeclaredMethods()) {
      if (Modifier.isPrivate(m.getModifiers())) continue;
      due(m + " is public, not static, and answers an int", Modifier.isPublic(m.getModifiers()) && !Modifier.isStatic(m.getModifiers()) && m.getReturnType() == int.class, true);
      due("what " + m + " says that it throws", m.getExceptionTypes().length, 0);
      List<String> types = new ArrayList<>();
      for (Class<?> type : m.getParameterTypes()) types.add(type.toString());
      got.add(m.getName() + "(" + String.join(", ", types) + ")");
    }
    due("the methods", got, documentsMethods());
    due("how many methods", got.size(), 28);
  }

  static void faceShowsNothingElse() {
    for (Field f : CubeCarton.class.getDeclaredFields()) {
      boolean isConstant = Arrays.asList(CubeCarton.class.getFields()).contains(f);
      due(f + " is private or one of the constants", isConstant || Modifier.isPrivate(f.getModifiers()), true);
    }
    for (Class<?> inside : CubeCarton.class.getDeclaredClasses()) due(inside + " is seen", Modifier.isPublic(inside.getModifiers()) || Modifier.isProtected(inside.getModifiers()), false);
  }

  /** "Ahead of the calls .. the interface says: ---- bodies." */
  static void faceHasItsCallsUnderTheDocumentsHeadings() {
    Map<String, List<String>> want = new LinkedHashMap<>(), got = new LinkedHashMap<>();
    for (String line : Texts.prose(Texts.DOCUMENT)) {
      Matcher m = Pattern.compile("Ahead of the calls (.*) the interface says: (---- .*)\\.").matcher(line);
      if (m.matches()) want.put(m.group(2), List.of(m.group(1).replace("`", "").split(", ")));
    }
    List<String> calls = new ArrayList<>();
    for (String line : Texts.lines(Texts.SOURCE)) {
      if (line.startsWith("    // ---- ")) {
        calls = new ArrayList<>();
        got.put(line.strip().substring(3), calls);
      }
      Matcher m = Pattern.compile("    public int (\\w+)\\(.*").matcher(line);
      if (m.matches()) calls.add(m.group(1));
    }
    due("headings in the document", want.size(), 2);
    due("the calls under their headings", got, want);
  }
}
