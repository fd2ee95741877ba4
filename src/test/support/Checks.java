import java.lang.reflect.InvocationTargetException;
import java.lang.reflect.Method;
import java.util.Arrays;
import java.util.Comparator;
import java.util.List;
import java.util.Map;

/** What tests by promise have in common: what is due, and whether a call has changed anything. */
abstract class Checks {
  static final int NONE = -1, BAD = -3, NO = -4, FULL = -5, NOTHING = -11, INDEX = -13;
  static final Map<String, Integer> CONSTANTS = Map.of("NONE", NONE, "BAD", BAD, "NO", NO, "FULL", FULL, "NOTHING", NOTHING, "INDEX", INDEX);
  static final int LEAST = Integer.MIN_VALUE, GREATEST = Integer.MAX_VALUE;

  // So many are told of one test; the rest is counted alone.
  private static final int MOST_TOLD = 5;

  private static int wrong = 0;
  private static int wrongOfRunning = 0;
  private static String running = "";

  /** Runs every method whose name begins so: each is a test of its own. */
  static void runTests(Class<?> tests, String begin) {
    int many = 0;
    Method[] methods = tests.getDeclaredMethods();
    Arrays.sort(methods, Comparator.comparing(Method::getName));
    for (Method m : methods) {
      if (!m.getName().startsWith(begin)) continue;
      many++;
      running = m.getName();
      wrongOfRunning = 0;
      try {
        m.invoke(null);
      } catch (InvocationTargetException e) {
        due("no exception", e.getCause().toString(), "");
      } catch (IllegalAccessException e) {
        throw new IllegalStateException(e);
      }
    }
    if (many == 0) due("tests", many, "some");
    end(many + " tests: all answers are as due");
  }

  static void end(String allIsWell) {
    System.out.println(wrong == 0 ? allIsWell : wrong + " answers are not as due");
    if (wrong != 0) System.exit(1);
  }

  static void due(int promise, String call, Object got, Object want) {
    if (!running.equals("promise " + promise)) wrongOfRunning = 0;
    running = "promise " + promise;
    due(call, got, want);
  }

  static void due(String call, Object got, Object want) {
    if (got.equals(want)) return;
    wrong++;
    if (++wrongOfRunning <= MOST_TOLD) System.out.println(running + ": " + call + " answered " + got + ", due is " + want);
  }

  /** Makes the call and goes on from there. */
  static void due(Run x, int want, String name, int... a) {
    String before = x.toString();
    due(Run.told(name, a) + " behind " + before, x.call(name, a), want);
  }

  private static void dueRows(Run x, List<String> got, List<String> want) {
    due("rows of the state behind " + x, got.size(), want.size());
    for (int i = 0; i < Math.min(got.size(), want.size()); i++) due("the state behind " + x, got.get(i), want.get(i));
  }

  /** A call that is refused, or asks: its answer is due, once more too, and it leaves all as it was. */
  static void asked(Run x, int want, String name, int... a) {
    Run after = x.twin();
    due(after, want, name, a);
    due(after, want, name, a);
    dueRows(after, State.now(after), State.now(x));
    dueRows(after, State.kept(after), State.kept(x));
  }

  /** The same with few changes kept, where one more would show, and with eight, where one would be lost. */
  static void refused(Run x, int want, String name, int... a) {
    asked(x, want, name, a);
    asked(eightKept(x), want, name, a);
  }

  /** Turned over an even number of times the sheet is as it was. */
  static Run eightKept(Run x) {
    Run more = x.twin();
    for (int i = 0; i < 8; i++) more.call("turn", 1);
    return more;
  }

  /** A CHANGE: its answer is due, it is kept, and undo() takes it back. Goes on behind it. */
  static void done(Run x, int want, String name, int... a) {
    List<String> before = State.now(x);
    int kept = Math.min(8, x.twin().call("count", 4) + 1);
    due(x, want, name, a);
    Run back = x.twin();
    due(back, kept, "count", 4);
    due(back, kept - 1, "undo");
    dueRows(back, State.now(back), before);
  }

  /** The nearest numbers beyond a range, and the farthest. */
  static int[] beyond(int least, int most) {
    return new int[] {LEAST, least - 1, most + 1, GREATEST};
  }

  /** The CUBES of a LAYER by bits, or NOTHING. */
  static int bits(Run x, int z) {
    List<Integer> row = State.layer(x, z);
    if (row.get(0) == NOTHING) return NOTHING;
    int bits = 0;
    for (int place = 0; place < 16; place++) bits |= row.get(place) << place;
    return bits;
  }

  static Run body(int... layers) {
    Run x = new Run();
    for (int z = 0; z < layers.length; z++) if (layers[z] >= 0) x.call("layer", z, layers[z]);
    return x;
  }

  /** A bench with something of everything, LAYERS 1 .. 3 MISSING, and five changes kept. */
  static Run bench() {
    return new Run().with("box", 2, 1, 1).with("cut", 0, 0, 1).with("spot", 0, 0, 1).with("spot", 1, 0, 1)
      .with("crease", 0, 0, 0, 9).with("shelve", 2);
  }

  /** The same for a BODY that is not WELL, for its reason 2, 3 or 4 of promise 7; it has no cuts then. */
  static Run notWell(int reason) {
    int[][] bodies = {{0x05}, {0x21, 0x23}, {0x777, 0x757, 0x777}};
    Run x = bench();
    for (int z = 0; z < bodies[reason - 2].length; z++) x.call("layer", z, bodies[reason - 2][z]);
    return x;
  }

  /** Draws rows of x, y, direction, quarter: both spots, and the crease between them. */
  static Run draw(Run x, int[]... creases) {
    int[] dx = {1, 0, -1, 0}, dy = {0, 1, 0, -1};
    for (int[] c : creases) {
      x.call("spot", c[0], c[1], 1);
      x.call("spot", c[0] + dx[c[2]], c[1] + dy[c[2]], 1);
      x.call("crease", c[0], c[1], c[2], c[3]);
    }
    return x;
  }

  static final int[][] CROSS = {{0, 0, 0, 1}, {1, 0, 0, 1}, {2, 0, 0, 1}, {1, 0, 1, 1}, {1, 0, 3, 1}};
  /** A ring of four that does not agree, and a roll of five whose last lies on its first. */
  static final int[][] RING = {{0, 0, 0, 0}, {0, 0, 1, 0}, {1, 0, 1, 0}, {0, 1, 0, 1}};
  static final int[][] ROLL = {{-4, 0, 0, 1}, {-3, 0, 0, 1}, {-2, 0, 0, 1}, {-1, 0, 0, 1}};

  /** So many spots of a block of ten times six, without creases. */
  static Run block(int many) {
    Run x = new Run();
    for (int i = 0; i < many; i++) x.call("spot", i % 10, i / 10, 1);
    return x;
  }

  /** So many spots in a row from (-30, y) on, with level creases. */
  static Run row(int many, int y) {
    Run x = new Run();
    for (int i = 0; i < many; i++) x.call("spot", i - 30, y, 1);
    for (int i = 1; i < many; i++) x.call("crease", i - 30, y, 2, 0);
    return x;
  }
}
