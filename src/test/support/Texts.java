import java.io.IOException;
import java.io.UncheckedIOException;
import java.nio.file.Files;
import java.nio.file.Path;
import java.util.ArrayList;
import java.util.List;
import java.util.Map;
import java.util.TreeMap;
import java.util.regex.Matcher;
import java.util.regex.Pattern;

/** The files that tests look at as texts; tests are run from the project's folder. */
final class Texts {
  static final String DOCUMENT = "../shared/DOC.md", SOURCE = "src/main/java/CubeCarton.java", README = "README.md";

  private Texts() { }

  static List<String> lines(String file) {
    try {
      return Files.readAllLines(Path.of(file));
    } catch (IOException e) {
      throw new UncheckedIOException(e);
    }
  }

  /** All that the pattern's brackets hold in a text. */
  static List<String> found(String text, String pattern) {
    List<String> found = new ArrayList<>();
    Matcher m = Pattern.compile(pattern).matcher(text);
    while (m.find()) found.add(m.group(1));
    return found;
  }

  /** The answers that stand with each call in the document's promises, in their order. */
  static Map<String, List<String>> documentsAnswers() {
    Map<String, List<String>> answers = new TreeMap<>();
    for (String line : prose(DOCUMENT)) {
      Matcher call = Pattern.compile("`int (\\w+)\\(.*?\\)`: (.*)").matcher(line);
      if (call.matches()) answers.put(call.group(1), found(call.group(2), "\\b(NONE|BAD|NO|FULL|NOTHING|INDEX)\\b"));
    }
    return answers;
  }

  /** The blocks of a language between rows of three backticks. */
  static List<List<String>> blocks(String file, String language) {
    List<List<String>> blocks = new ArrayList<>();
    List<String> block = null;
    for (String line : lines(file)) {
      if (line.equals("```" + language)) block = new ArrayList<>();
      else if (line.startsWith("```") && block != null) {
        blocks.add(block);
        block = null;
      } else if (block != null) block.add(line);
    }
    return blocks;
  }

  /** The lines that stand in no block. */
  static List<String> prose(String file) {
    List<String> prose = new ArrayList<>();
    boolean inside = false;
    for (String line : lines(file)) {
      if (line.startsWith("```")) inside = !inside;
      else if (!inside) prose.add(line);
    }
    return prose;
  }

  /** Lines of Java without comments and without what stands in quotes. */
  static List<String> code(String file) {
    List<String> code = new ArrayList<>();
    boolean inside = false;
    for (String line : lines(file)) {
      String rest = line.replaceAll("\"(\\\\.|[^\"\\\\])*\"|'(\\\\.|[^'\\\\])'", "''").replaceAll("/\\*.*?\\*/", "");
      if (inside && rest.contains("*/")) {
        rest = rest.substring(rest.indexOf("*/") + 2);
        inside = false;
      }
      if (inside) rest = "";
      if (rest.contains("/*")) {
        rest = rest.substring(0, rest.indexOf("/*"));
        inside = true;
      }
      code.add(rest.contains("//") ? rest.substring(0, rest.indexOf("//")) : rest);
    }
    return code;
  }
}
