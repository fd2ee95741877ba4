import java.util.ArrayList;
import java.util.List;

/**
 * All that calls can tell of an object. It is read off twins of it, since some of the calls that
 * tell the most change what they tell of, and no object is used for more than 512 calls.
 */
final class State {
  private State() { }

  /** BODY, cuts, SHEET and shelves. */
  static List<String> now(Run x) {
    List<String> all = new ArrayList<>();
    for (int z = 0; z < 4; z++) all.add("LAYER " + z + ": " + layer(x, z));
    all.add("cuts: " + cuts(x));
    all.add("SHEET: " + sheet(x));
    all.add("shelves: " + shelves(x));
    return all;
  }

  /** How many changes are kept, and what comes up as they are taken back one by one. */
  static List<String> kept(Run x) {
    List<String> all = new ArrayList<>();
    Run twin = x.twin();
    all.add("kept: " + twin.call("count", 4));
    for (int left = twin.call("undo"); left >= 0; left = twin.call("undo")) all.add("undo " + left + ": " + glance(twin));
    return all;
  }

  /** What a place has: 1, 0, or NOTHING in a LAYER that is MISSING. */
  static List<Integer> layer(Run x, int z) {
    Run twin = x.twin();
    List<Integer> row = new ArrayList<>();
    for (int place = 0; place < 16; place++) row.add(twin.call("cube", z, place, 0));
    return row;
  }

  private static List<Integer> cuts(Run x) {
    Run twin = x.twin();
    List<Integer> row = new ArrayList<>(List.of(twin.call("cuts"), twin.call("well"), twin.call("skin")));
    if (row.get(1) != 0) return row;
    for (int i = 0; i < row.get(2); i++) for (int k = 0; k < 4; k++) row.add(twin.call("across", i, k, 3));
    return row;
  }

  /** The SPOTS: x, y, how many CREASES, and what is to the right and above, as crease() tells it. */
  static List<List<Integer>> sheet(Run x) {
    Run twin = x.twin();
    List<List<Integer>> spots = spots(twin, twin.call("count", 2));
    for (List<Integer> spot : spots)
      for (int d = 0; d < 2; d++) spot.add(twin.call("crease", spot.get(0), spot.get(1), d, 5));
    return spots;
  }

  private static List<Integer> shelves(Run x) {
    Run twin = x.twin();
    List<Integer> row = new ArrayList<>();
    for (int k = 0; k < 6; k++) row.add(twin.call("alike", k));
    return row;
  }

  private static List<List<Integer>> glance(Run x) {
    List<Integer> counts = new ArrayList<>();
    for (int what = 0; what < 4; what++) counts.add(x.call("count", what));
    counts.add(x.call("cuts"));
    counts.add(x.call("skin"));
    List<List<Integer>> rows = spots(x, Math.min(3, counts.get(2)));
    rows.add(counts);
    return rows;
  }

  private static List<List<Integer>> spots(Run x, int many) {
    List<List<Integer>> spots = new ArrayList<>();
    for (int i = 0; i < many; i++) spots.add(new ArrayList<>(List.of(x.call("told", i, 0), x.call("told", i, 1), x.call("told", i, 2))));
    return spots;
  }
}
