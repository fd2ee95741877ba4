import java.util.ArrayList;
import java.util.List;
import java.util.Set;
import java.util.TreeSet;

/** Places, DIRECTIONS and SIDES by the words of Terms 1; points are rows of x, y, z. */
final class Space {
  static final List<List<Integer>> STEPS = List.of(
    List.of(1, 0, 0), List.of(-1, 0, 0), List.of(0, 1, 0), List.of(0, -1, 0), List.of(0, 0, 1), List.of(0, 0, -1));

  private Space() { }

  static int against(int direction) { return direction % 2 == 0 ? direction + 1 : direction - 1; }
  static List<Integer> step(int direction) { return STEPS.get(direction); }

  static List<Integer> plus(List<Integer> a, List<Integer> b) { return List.of(a.get(0) + b.get(0), a.get(1) + b.get(1), a.get(2) + b.get(2)); }
  static List<Integer> twice(List<Integer> a) { return plus(a, a); }
  static List<Integer> minus(List<Integer> a) { return List.of(-a.get(0), -a.get(1), -a.get(2)); }
  static int dot(List<Integer> a, List<Integer> b) { return a.get(0) * b.get(0) + a.get(1) * b.get(1) + a.get(2) * b.get(2); }

  /** The DIRECTION in which a SIDE of a SQUARE of a DIRECTION looks. */
  static int looks(int direction, int side) {
    int a = direction / 2, u = (a + 1) % 3, v = (a + 2) % 3;
    int[] up = {2 * u, 2 * v, 2 * u + 1, 2 * v + 1};
    int[] down = {2 * u, 2 * v + 1, 2 * u + 1, 2 * v};
    return direction % 2 == 0 ? up[side] : down[side];
  }

  static int sideLooking(int direction, int toward) {
    for (int side = 0; side < 4; side++) if (looks(direction, side) == toward) return side;
    throw new IllegalStateException("no SIDE of " + direction + " looks " + toward);
  }

  /** A SQUARE by its CUBE and its DIRECTION. */
  record Square(List<Integer> cube, int direction) {
    /** In halves of a CUBE's side. */
    List<Integer> middle() { return plus(twice(cube), step(direction)); }
    /** The middle of one of its sides: SQUARES that lie on one edge have it in common. */
    List<Integer> edge(int side) { return plus(middle(), step(looks(direction, side))); }
  }

  /** The places with CUBES, read off the bits of LAYERS; one below 0 is MISSING. */
  static Set<List<Integer>> cubes(int... layers) {
    Set<List<Integer>> cubes = new TreeSet<>((a, b) -> place(a) - place(b));
    for (int z = 0; z < layers.length; z++) for (int i = 0; i < 16; i++)
      if (layers[z] >= 0 && (layers[z] >> i & 1) == 1) cubes.add(List.of(i % 4, i / 4, z));
    return cubes;
  }

  private static int place(List<Integer> cube) { return 100 * cube.get(2) + 10 * cube.get(1) + cube.get(0); }

  static Run body(Iterable<List<Integer>> cubes) {
    Run x = new Run().with("layer", 0, 0).with("layer", 1, 0).with("layer", 2, 0).with("layer", 3, 0);
    for (List<Integer> cube : cubes) x.call("cube", cube.get(2), 4 * cube.get(1) + cube.get(0), 1);
    return x;
  }

  /** All OUTER SQUARES, by z, y, x of their CUBES and by their DIRECTIONS. */
  static List<Square> skin(int... layers) {
    Set<List<Integer>> cubes = cubes(layers);
    List<Square> skin = new ArrayList<>();
    for (List<Integer> cube : cubes) for (int d = 0; d < 6; d++) if (!cubes.contains(plus(cube, step(d)))) skin.add(new Square(cube, d));
    return skin;
  }

  /** THE SKIN as square() tells it. */
  static List<Square> told(Run x) {
    List<List<Integer>> columns = new ArrayList<>();
    for (int what = 0; what < 4; what++) {
      Run twin = x.twin();
      List<Integer> column = new ArrayList<>();
      int squares = twin.call("skin");
      for (int i = 0; i < squares; i++) column.add(twin.call("square", i, what));
      columns.add(column);
    }
    List<Square> skin = new ArrayList<>();
    for (int i = 0; i < columns.get(0).size(); i++)
      skin.add(new Square(List.of(columns.get(0).get(i), columns.get(1).get(i), columns.get(2).get(i)), columns.get(3).get(i)));
    return skin;
  }

  /** What across() tells of all SIDES: rows of the SQUARE there, its SIDE, how it is, whether cut. */
  static List<List<Integer>> across(Run x) {
    List<List<Integer>> rows = new ArrayList<>();
    int squares = x.twin().call("skin");
    for (int side = 0; side < 4 * squares; side++) rows.add(new ArrayList<>());
    for (int what = 0; what < 4; what++) {
      Run twin = x.twin();
      for (int side = 0; side < 4 * squares; side++) rows.get(side).add(twin.call("across", side / 4, side % 4, what));
    }
    return rows;
  }
}
