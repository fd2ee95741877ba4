import java.io.IOException;
import java.lang.reflect.Method;
import java.nio.file.Files;
import java.nio.file.Path;
import java.util.ArrayList;
import java.util.Arrays;
import java.util.HashMap;
import java.util.List;
import java.util.Map;
import java.util.Set;
import java.util.TreeMap;
import java.util.TreeSet;
import java.util.regex.Matcher;
import java.util.regex.Pattern;
import java.util.stream.Stream;
import javax.tools.ToolProvider;

/** Every call that README.md shows has the answer that README.md gives for it, and what else it says of calls and files. */
public final class ReadmeTests extends Checks {
  private static final Pattern MADE = Pattern.compile("\\s*CubeCarton (\\w+) = new CubeCarton\\(\\);");
  private static final Pattern CALL = Pattern.compile("\\s*(?:System\\.out\\.println\\()?(\\w+)\\.(\\w+)\\(([-\\d, ]*)\\)\\)?;\\s*// (-?\\d+|[A-Z]+)(:? .*|)");
  private static final Pattern FRAME = Pattern.compile("\\s*(public .*\\{|\\})");

  public static void main(String[] args) {
    runTests(ReadmeTests.class, "readme");
  }

  private static Set<String> face() {
    Set<String> names = new TreeSet<>();
    for (Method m : CubeCarton.class.getMethods()) if (m.getDeclaringClass() == CubeCarton.class) names.add(m.getName());
    return names;
  }

  /** A line of a block that is a call, taken apart: object, name, numbers, answer. */
  private static List<Matcher> calls(List<String> block) {
    List<Matcher> calls = new ArrayList<>();
    for (String line : block) {
      Matcher call = CALL.matcher(line);
      if (call.matches()) calls.add(call);
      else due("a call with its answer, or what stands around calls: " + line, line.isBlank() || MADE.matcher(line).matches() || FRAME.matcher(line).matches(), true);
    }
    return calls;
  }

  private static int[] numbers(String row) {
    return row.isBlank() ? new int[0] : Arrays.stream(row.split(",")).mapToInt(n -> Integer.parseInt(n.strip())).toArray();
  }

  private static int answer(String told) { return CONSTANTS.containsKey(told) ? CONSTANTS.get(told) : Integer.parseInt(told); }

  static void readmeCallsAnswerAsItSays() {
    int many = 0;
    for (List<String> block : Texts.blocks(Texts.README, "java")) {
      Map<String, Run> objects = new HashMap<>();
      for (String line : block) {
        Matcher made = MADE.matcher(line);
        if (made.matches()) objects.put(made.group(1), new Run());
      }
      due("objects made in a block", objects.size(), 1);
      for (Matcher call : calls(block)) {
        due(objects.get(call.group(1)), answer(call.group(4)), call.group(2), numbers(call.group(3)));
        many++;
      }
    }
    due("calls are shown", many > 100, true);
  }

  static void readmeShowsEveryCallOfTheFace() {
    Set<String> shown = new TreeSet<>();
    for (List<String> block : Texts.blocks(Texts.README, "java")) for (Matcher call : calls(block)) shown.add(call.group(2));
    due("calls that are shown", shown, face());
  }

  /** A call that stands elsewhere than in the blocks would not be made by these tests. */
  static void readmeShowsNoCallsOutsideOfItsBlocks() {
    List<String> rest = new ArrayList<>(Texts.prose(Texts.README));
    for (List<String> block : Texts.blocks(Texts.README, "sh")) rest.addAll(block);
    for (String line : rest) for (String name : face()) due("no call of " + name + " in: " + line, line.matches(".*\\b" + name + "\\(.*"), false);
  }

  static void readmeBlocksAreJava() throws IOException {
    Path folder = Files.createTempDirectory("readme");
    for (List<String> block : Texts.blocks(Texts.README, "java")) {
      boolean isWhole = block.get(0).startsWith("public final class Example ");
      String begin = "public final class Example { public static void main(String[] args) {\n";
      Path file = folder.resolve("Example.java");
      Files.writeString(file, isWhole ? String.join("\n", block) : begin + String.join("\n", block) + "\n} }\n");
      int code = ToolProvider.getSystemJavaCompiler().run(null, null, null, "-cp", System.getProperty("java.class.path"), "-d", folder.toString(), file.toString());
      due("javac of the block that begins with " + block.get(0), code, 0);
    }
    try (Stream<Path> files = Files.list(folder)) {
      for (Path file : files.toList()) Files.delete(file);
    }
    Files.delete(folder);
  }

  /** Rows of the table of refusals: the constants in the order in which they stand with a call. */
  private static Map<String, List<String>> refusals() {
    Map<String, List<String>> refusals = new TreeMap<>();
    boolean inTable = false;
    for (String line : Texts.prose(Texts.README)) {
      if (line.startsWith("| call |")) inTable = true;
      else if (!line.startsWith("|")) inTable = false;
      if (!inTable || !line.startsWith("| `")) continue;
      String[] columns = line.split("\\|");
      for (String name : Texts.found(columns[1], "`(\\w+)`")) refusals.put(name, Texts.found(columns[2], "`([A-Z]+)`"));
    }
    return refusals;
  }

  static void readmeTellsTheRefusalsOfEveryCallInTheDocumentsOrder() {
    Map<String, List<String>> refusals = refusals();
    due("calls in the table", refusals.keySet(), face());
    for (Map.Entry<String, List<String>> call : Texts.documentsAnswers().entrySet()) {
      List<String> want = new ArrayList<>(call.getValue());
      want.remove("NONE");
      due("how " + call.getKey() + " is refused", refusals.get(call.getKey()), want);
    }
  }

  /** BAD of open needs some fifty cuts, and FULL of spot sixty SPOTS: they are left to the boundary tests. */
  static void readmeShowsEachRefusalOfItsTable() {
    Map<String, Set<String>> shown = new TreeMap<>();
    for (List<String> block : Texts.blocks(Texts.README, "java")) for (Matcher call : calls(block))
      if (CONSTANTS.containsKey(call.group(4)) && !call.group(4).equals("NONE")) shown.computeIfAbsent(call.group(2), n -> new TreeSet<>()).add(call.group(4));
    shown.get("open").add("BAD");
    shown.computeIfAbsent("spot", n -> new TreeSet<>()).add("FULL");
    for (Map.Entry<String, List<String>> row : refusals().entrySet())
      due("refusals shown of " + row.getKey(), shown.getOrDefault(row.getKey(), Set.of()), new TreeSet<>(row.getValue()));
  }

  static void readmeTellsTheConstantsNumbers() {
    Map<String, Integer> told = new TreeMap<>();
    for (String line : Texts.prose(Texts.README)) {
      Matcher row = Pattern.compile("\\| `([A-Z]+)` \\| (-\\d+) \\|.*").matcher(line);
      if (row.matches()) told.put(row.group(1), Integer.valueOf(row.group(2)));
    }
    told.put("NONE", NONE);
    due("the constants", told, new TreeMap<>(CONSTANTS));
    due("NONE is told too", String.join("\n", Texts.prose(Texts.README)).contains("`NONE` (-1)"), true);
  }

  /** The class's own, the tests, and what they use. */
  static void readmeNamesFilesThatAreThereAndAllTests() throws IOException {
    String text = String.join("\n", Texts.lines(Texts.README));
    for (String path : Texts.found(text, "((?:src|\\.ci|\\.\\./shared)/[\\w./]*\\w)")) due(path + " is there", Files.exists(Path.of(path)), true);
    for (String folder : List.of("src/test/java", "src/test/support")) try (Stream<Path> files = Files.list(Path.of(folder))) {
      for (Path file : files.toList()) due(file + " is named", text.contains("`" + file.getFileName().toString().replace(".java", "") + "`"), true);
    }
    for (Class<?> inside : CubeCarton.class.getDeclaredClasses()) due(inside + " is named", text.contains("`" + inside.getSimpleName() + "`"), true);
  }
}
