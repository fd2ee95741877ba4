import java.lang.reflect.Method;
import java.util.ArrayList;
import java.util.Arrays;
import java.util.HashMap;
import java.util.HashSet;
import java.util.List;
import java.util.Map;
import java.util.Random;
import java.util.Set;
import java.util.TreeMap;
import java.util.TreeSet;

/** What stands ahead of the Terms, and Terms 1 and 2, sentence by sentence, as far as a call's answer can show them. */
public final class BodyTermsTests extends Checks {
  public static void main(String[] args) {
    runTests(BodyTermsTests.class, "term");
  }

  /** One CUBE, two, three in a hook, three that bend upward, a handed one, four flat, a ring, towers. */
  private static final int[][] WELL = {
    {1}, {0x8000}, {3}, {0x13}, {3, 1}, {0x23, 0x20}, {0x33}, {0x757}, {0x17, 1, 0x11}, {-1, 0x4E40, 0x0440}, {0xF99F, 1, 1, 1}, {0xFF, 0xF0, 0x1F0},
  };
  private static final int[][] NOT_WELL = {{5}, {0x21, 0x23}, {0x777, 0x757, 0x777}, {1, -1, 1}, {0xA5A5, 0x5A5A, 0xA5A5, 0x5A5A}, {0, 0}};

  // ---- ahead of 1: refusals

  /**
   * "A call that is refused answers one of BAD, NO, FULL, or a FINDING, of several the one that stands first with
   * it, and changes nothing.": no call answers another one than those that stand with it in the document. (Which
   * of them is first, the boundary tests ask.)
   */
  static void term0RefusalsAreThoseThatStandWithTheCall() {
    Random random = new Random(9);
    Map<String, Integer> takes = new TreeMap<>();
    for (Method m : CubeCarton.class.getMethods()) if (m.getDeclaringClass() == CubeCarton.class) takes.put(m.getName(), m.getParameterCount());
    due("calls in the document", Texts.documentsAnswers().keySet(), takes.keySet());
    List<Run> benches = List.of(new Run(), bench(), eightKept(bench()), notWell(2), notWell(4), block(60), draw(bench(), RING));
    Map<String, Set<Integer>> seen = new TreeMap<>();
    for (Map.Entry<String, Integer> call : takes.entrySet()) for (Run bench : benches) for (int i = 0; i < (call.getValue() == 0 ? 1 : 12); i++) {
      int[] a = new int[call.getValue()];
      for (int k = 0; k < a.length; k++) a[k] = ODD[random.nextInt(random.nextInt(3) == 0 ? ODD.length : 4)];
      Run x = bench.twin();
      int answer = x.call(call.getKey(), a);
      if (answer >= 0) continue;
      seen.computeIfAbsent(call.getKey(), n -> new TreeSet<>()).add(answer);
      due("the state behind " + x, State.now(x), State.now(bench));
      due("what is kept behind " + x, State.kept(x), State.kept(bench));
    }
    for (Map.Entry<String, Set<Integer>> call : seen.entrySet()) {
      Set<Integer> may = new TreeSet<>();
      for (String name : Texts.documentsAnswers().get(call.getKey())) may.add(CONSTANTS.get(name));
      if (call.getKey().equals("open")) may.addAll(Set.of(-21, -22, -23));
      call.getValue().removeAll(may);
      due("answers of " + call.getKey() + " that do not stand with it", call.getValue(), Set.of());
    }
    due("calls that were refused", seen.size(), 21);
  }

  private static final int[] ODD = {0, 1, 2, 3, 4, 5, 6, 9, 15, 16, 17, 30, 31, 61, -1, -2, -30, -31, LEAST, GREATEST};

  // ---- 1: bodies

  /** "A BODY has 4 LAYERS, z = 0 .. 3, .. a row of 4 times 4 places, place 4 * y + x; each place has a CUBE or none." */
  static void term1APlaceIs4YAndX() {
    for (int z = 0; z < 4; z++) for (int y = 0; y < 4; y++) for (int x = 0; x < 4; x++) {
      Run one = new Run().with("layer", z, 0);
      due(one, 0, "cube", z, 4 * y + x, 1);
      due("the CUBE of SQUARE 0 behind " + one, Space.told(one).get(0).cube(), List.of(x, y, z));
      Run bits = new Run().with("layer", z, 1 << 4 * y + x);
      due(bits, 1, "cube", z, 4 * y + x, 0);
    }
  }

  /** "DIRECTIONS 0 .. 5: x up, x down, y up, y down, z up, z down" */
  static void term1TowardAnotherCubeASquareIsNotOuter() {
    List<Integer> cube = List.of(1, 2, 1);
    for (int d = 0; d < 6; d++) {
      List<Integer> other = Space.plus(cube, Space.step(d));
      Run two = Space.body(List.of(cube, other));
      Set<Integer> here = new HashSet<>(), there = new HashSet<>();
      for (Space.Square s : Space.told(two)) (s.cube().equals(cube) ? here : there).add(s.direction());
      Set<Integer> wantHere = new HashSet<>(Set.of(0, 1, 2, 3, 4, 5)), wantThere = new HashSet<>(wantHere);
      wantHere.remove(d);
      wantThere.remove(Space.against(d));
      due("DIRECTIONS of the CUBE's SQUARES, the other being in DIRECTION " + d, here, wantHere);
      due("DIRECTIONS of the other's, in DIRECTION " + d, there, wantThere);
    }
  }

  /** "THE SKIN: all OUTER SQUARES, numbered from 0 by their CUBES (by z, then y, then x), then by their DIRECTIONS." */
  static void term1TheSkinIsAllOuterSquaresInOrder() {
    for (int[][] bodies : new int[][][] {WELL, NOT_WELL}) for (int[] layers : bodies) dueSkin(layers);
    Random random = new Random(1);
    for (int i = 0; i < 40; i++) dueSkin(random.nextInt(65536), random.nextInt(65536), i % 4 == 0 ? -1 : random.nextInt(65536), random.nextInt(65536));
  }

  private static void dueSkin(int... layers) {
    Run x = body(layers);
    due("THE SKIN of " + Arrays.toString(layers), Space.told(x), Space.skin(layers));
    due(x, Space.skin(layers).size(), "skin");
  }

  /** "If its DIRECTION is up, SIDES 0 .. 3 look u up, v up, u down, v down; if it is down, u up, v down, u down, v up." */
  static void term1SidesLookAsTheirDirectionSays() {
    // Of one CUBE a SQUARE's number is its DIRECTION, and across each SIDE lies the one that looks there.
    int[][] looks = {{2, 4, 3, 5}, {2, 5, 3, 4}, {4, 0, 5, 1}, {4, 1, 5, 0}, {0, 2, 1, 3}, {0, 3, 1, 2}};
    Run x = body(1);
    for (int d = 0; d < 6; d++) for (int k = 0; k < 4; k++) {
      due("where SIDE " + k + " of DIRECTION " + d + " looks, by the Terms' words", Space.looks(d, k), looks[d][k]);
      due(x, looks[d][k], "across", d, k, 0);
      due(x, Space.sideLooking(looks[d][k], d), "across", d, k, 1);
    }
  }

  /** "if there is a CUBE at c + s + d .., it is HOLLOW (-1) and leads to that CUBE's SQUARE that looks against s" */
  static void term1HollowLeadsToTheCubeAbove() {
    List<Integer> c = List.of(1, 1, 2);
    for (int d = 0; d < 6; d++) for (int k = 0; k < 4; k++) {
      int s = Space.looks(d, k);
      List<Integer> next = Space.plus(c, Space.step(s)), above = Space.plus(next, Space.step(d));
      dueAcross(List.of(c, next, above), c, d, k, above, Space.against(s), Space.against(d), 9);
    }
  }

  /** "else if there is one at c + s, it is FLAT (0) and leads to that one's SQUARE of DIRECTION d" */
  static void term1FlatLeadsToTheCubeBeside() {
    List<Integer> c = List.of(2, 1, 1);
    for (int d = 0; d < 6; d++) for (int k = 0; k < 4; k++) {
      int s = Space.looks(d, k);
      List<Integer> next = Space.plus(c, Space.step(s));
      dueAcross(List.of(c, next), c, d, k, next, d, Space.against(s), 0);
    }
  }

  /** "else it is SHARP (1), and leads to c's own SQUARE of DIRECTION s" */
  static void term1SharpLeadsToTheSameCube() {
    for (List<Integer> c : List.of(List.of(0, 0, 0), List.of(1, 2, 1), List.of(3, 3, 3)))
      for (int d = 0; d < 6; d++) for (int k = 0; k < 4; k++) dueAcross(List.of(c), c, d, k, c, Space.looks(d, k), d, 1);
  }

  /** The other SIDE is given by the DIRECTION in which it looks; from there it leads back. */
  private static void dueAcross(List<List<Integer>> cubes, List<Integer> c, int d, int k, List<Integer> other, int direction, int looking, int how) {
    Run x = Space.body(cubes);
    List<Space.Square> skin = Space.told(x);
    int from = skin.indexOf(new Space.Square(c, d)), to = skin.indexOf(new Space.Square(other, direction));
    int side = Space.sideLooking(direction, looking);
    due(x, 0, "well");
    int[][] rows = {{from, k, to, side}, {to, side, from, k}};
    for (int[] row : rows) {
      due(x, row[2], "across", row[0], row[1], 0);
      due(x, row[3], "across", row[0], row[1], 1);
      due(x, how, "across", row[0], row[1], 2);
      due(x, 0, "across", row[0], row[1], 3);
    }
  }

  /** "It leads to that SIDE of the other SQUARE which lies on the same edge." */
  static void term1AcrossLiesTheSideOnTheSameEdge() {
    for (int[] layers : WELL) {
      Run x = body(layers);
      due(x, 0, "well");
      List<Space.Square> skin = Space.skin(layers);
      Map<List<Integer>, List<Integer>> onEdge = new HashMap<>();
      for (int i = 0; i < 4 * skin.size(); i++) onEdge.computeIfAbsent(skin.get(i / 4).edge(i % 4), e -> new ArrayList<>()).add(i);
      List<List<Integer>> across = Space.across(x);
      for (int i = 0; i < 4 * skin.size(); i++) {
        List<Integer> both = onEdge.get(skin.get(i / 4).edge(i % 4));
        due("SIDES on an edge of " + Arrays.toString(layers), both.size(), 2);
        int other = both.get(0) == i ? both.get(1) : both.get(0);
        due("across " + i / 4 + ", " + i % 4 + " of " + Arrays.toString(layers), across.get(i).subList(0, 2), List.of(other / 4, other % 4));
      }
    }
  }

  /** "A BODY is WELL, if it has a CUBE; each two of its CUBES hang together by CUBES side by side" */
  static void term1WellIfItHasACubeAndHangsTogether() {
    for (int[] layers : WELL) due(body(layers), 0, "well");
    int[] why = {2, 3, 4, 2, 2, 1};
    for (int i = 0; i < why.length; i++) due(body(NOT_WELL[i]), why[i], "well");
  }

  /** "no two CUBES have an edge .. in common without CUBES, .. among those .. that have that edge" */
  static void term1CubesWithAnEdgeInCommonNeedAThirdThatHasIt() {
    List<Integer> c = List.of(1, 1, 1);
    for (int d = 0; d < 6; d++) for (int e = 0; e < 6; e++) {
      if (d / 2 == e / 2) continue;
      List<Integer> between = Space.plus(c, Space.step(d)), across = Space.plus(between, Space.step(e));
      due(Space.body(List.of(c, between, across)), 0, "well");
      due(Space.body(List.of(c, across)), 2, "well");
      // They hang together by three more, which lie beside the four that have the edge.
      int f = 2 * (3 - d / 2 - e / 2);
      List<List<Integer>> around = new ArrayList<>(List.of(c, across));
      for (List<Integer> p : List.of(c, Space.plus(c, Space.step(d)), across)) around.add(Space.plus(p, Space.step(f)));
      due(Space.body(around), 3, "well");
    }
  }

  /** "no two CUBES have .. a corner in common without CUBES, .. among those .. that have that .. corner" */
  static void term1CubesWithACornerInCommonNeedTwoThatHaveIt() {
    int[][] orders = {{0, 1, 2}, {0, 2, 1}, {1, 0, 2}, {1, 2, 0}, {2, 0, 1}, {2, 1, 0}};
    for (int signs = 0; signs < 8; signs++) for (int[] order : orders) {
      List<List<Integer>> row = new ArrayList<>(List.of(List.of(1 + (signs & 1), 1 + (signs >> 1 & 1), 1 + (signs >> 2))));
      for (int axis : order) row.add(Space.plus(row.get(row.size() - 1), Space.step(2 * axis + (signs >> axis & 1))));
      due(Space.body(row), 0, "well");
      due(Space.body(List.of(row.get(0), row.get(3))), 2, "well");
      due(Space.body(List.of(row.get(0), row.get(1), row.get(3))), 2, "well");
    }
    // They hang together by a row that goes about the corner at a distance.
    due(body(-1, -1, 0x7510, 0x0030), 3, "well");
  }

  /** "and all places without CUBES, in and outside of the LAYERS, hang together side by side" */
  static void term1PlacesWithoutCubesHangTogetherOutsideToo() {
    due(body(0xFFFF, 0xF99F, 0xF99F, 0xFFFF), 4, "well");
    due(body(0xFFFF, 0xF99F, 0xF99F, 0xFFDF), 0, "well");
    due(body(0xFFFF, 0xFFDF, 0xFFFF), 4, "well");
    due(body(0xFFFF, 0xFFDF, -1), 0, "well");
    // A hole through, and dents on opposite walls.
    due(body(0xFFDF, 0xFFDF, 0xFFDF, 0xFFDF), 0, "well");
    due(body(0xFFDF, 0xFFFF, 0xFFFF, 0xFFDF), 0, "well");
  }

  // ---- 2: cut and opened

  /** "EDGES of THE SKIN of a WELL BODY are cut or not (none at first; none as the BODY changes)." */
  static void term2EachEdgeIsCutAloneAndIsSeenFromBothSides() {
    for (int[] layers : new int[][] {{1}, {3, 1}, {0x757}}) {
      List<List<Integer>> across = Space.across(body(layers));
      for (List<Integer> row : across) due("whether an EDGE is cut at first", row.get(3), 0);
      for (int i = 0; i < across.size(); i += 1 + across.size() / 24) {
        Run x = body(layers).with("cut", i / 4, i % 4, 1);
        Set<Integer> cut = new HashSet<>();
        List<List<Integer>> after = Space.across(x);
        for (int k = 0; k < after.size(); k++) if (after.get(k).get(3) == 1) cut.add(k);
        due("SIDES that are cut behind " + x, cut, Set.of(i, 4 * across.get(i).get(0) + across.get(i).get(1)));
        due(x, 1, "cuts");
        due(x.with("layer", 3, 0), 0, "cuts");
      }
    }
  }

  private static final int[] DX = {1, 0, -1, 0}, DY = {0, 1, 0, -1};
  // The nearest come first: by then all have come to which any row leads.
  private static final int MOST_COMINGS = 5000;

  /** Where SQUARES come to, by all rows of EDGES that are not cut: rows of place and TURN. */
  private static List<Set<List<Integer>>> comings(List<List<Integer>> across, int reach) {
    List<Set<List<Integer>>> comings = new ArrayList<>();
    for (int i = 0; i < across.size() / 4; i++) comings.add(new HashSet<>());
    List<List<Integer>> todo = new ArrayList<>(List.of(List.of(0, 0, 0, 0)));
    comings.get(0).add(List.of(0, 0, 0));
    int come = 1;
    boolean several = false;
    // Rows that go round and round come to ever more places: two are enough, once all SQUARES have come that can.
    for (int i = 0; i < todo.size() && i < MOST_COMINGS && !(several && come == comings.size()); i++) {
      List<Integer> at = todo.get(i);
      for (int k = 0; k < 4; k++) {
        List<Integer> there = across.get(4 * at.get(0) + k);
        if (there.get(3) == 1) continue;
        int direction = (k + at.get(3)) % 4;
        // The other's SIDE looks back: (side + TURN) modulo 4 is the opposite direction.
        int turn = Math.floorMod(direction + 2 - there.get(1), 4);
        List<Integer> place = List.of(at.get(1) + DX[direction], at.get(2) + DY[direction], turn);
        if (Math.abs(place.get(0)) > reach || Math.abs(place.get(1)) > reach) continue;
        Set<List<Integer>> ways = comings.get(there.get(0));
        if (!ways.add(place)) continue;
        if (ways.size() == 1) come++;
        else several = true;
        todo.add(List.of(there.get(0), place.get(0), place.get(1), turn));
      }
    }
    return comings;
  }

  /** The answer that is due of open(), but for its CREASES: 0 if it can be opened. */
  private static int why(List<Set<List<Integer>>> comings) {
    Set<List<Integer>> places = new HashSet<>();
    boolean several = false;
    for (Set<List<Integer>> ways : comings) {
      if (ways.isEmpty()) return -21;
      several |= ways.size() > 1;
      for (List<Integer> way : ways) places.add(way.subList(0, 2));
    }
    if (several) return -22;
    return places.size() < comings.size() ? -23 : 0;
  }

  /** All ways to cut the twelve EDGES of a CUBE: of 4096, the 384 trees can be opened, to eleven sheets. */
  static void term2ACubeCutInAllWays() {
    List<List<Integer>> whole = Space.across(body(1));
    List<Integer> edges = new ArrayList<>();
    for (int i = 0; i < 24; i++) if (4 * whole.get(i).get(0) + whole.get(i).get(1) > i) edges.add(i);
    due("EDGES of a CUBE", edges.size(), 12);
    Map<Integer, Integer> answers = new HashMap<>();
    Set<List<Integer>> forms = new HashSet<>();
    for (int cut = 0; cut < 4096; cut++) {
      Run x = body(1);
      for (int e = 0; e < 12; e++) if ((cut >> e & 1) == 1) x.call("cut", edges.get(e) / 4, edges.get(e) % 4, 1);
      due(x, Integer.bitCount(cut), "cuts");
      List<List<Integer>> across = new ArrayList<>();
      for (int i = 0; i < 24; i++) across.add(List.of(whole.get(i).get(0), whole.get(i).get(1), 1, isCut(edges, whole, cut, i)));
      int why = why(comings(across, 8));
      due(x, why == 0 ? 5 : why, "open");
      answers.merge(why, 1, Integer::sum);
      if (why != 0) continue;
      dueLaid(x, across);
      forms.add(formOf(x));
      due(x, 1, "closed");
      due(x, 48, "wraps");
    }
    due("how many can be opened", answers.get(0), 384);
    due("SHEETS that are not ALIKE", forms.size(), 11);
  }

  private static int isCut(List<Integer> edges, List<List<Integer>> whole, int cut, int side) {
    int other = 4 * whole.get(side).get(0) + whole.get(side).get(1);
    return cut >> edges.indexOf(Math.min(side, other)) & 1;
  }

  private static List<Integer> formOf(Run x) {
    Run twin = x.twin();
    List<Integer> form = new ArrayList<>();
    for (int number = twin.call("form", 0); number != NONE; number = twin.call("form", form.size())) form.add(number);
    return form;
  }

  /**
   * "SQUARE 0 is laid at (0, 0) with TURN 0; SIDE k of a SQUARE with TURN t looks in the sheet's direction
   * (k + t) modulo 4 ..; across an EDGE that is not cut the other SQUARE is laid right beside"; and of Terms 3:
   * "a SPOT for each SQUARE; between two a CREASE, if an EDGE that is not cut leads from one to the other there"
   */
  private static void dueLaid(Run x, List<List<Integer>> across) {
    List<Set<List<Integer>>> comings = comings(across, 30);
    Map<List<Integer>, Integer> squareAt = new HashMap<>();
    for (int i = 0; i < comings.size(); i++) squareAt.put(comings.get(i).iterator().next().subList(0, 2), i);
    List<List<Integer>> sheet = State.sheet(x);
    Set<List<Integer>> places = new HashSet<>();
    for (List<Integer> spot : sheet) places.add(spot.subList(0, 2));
    due("places of the SPOTS behind " + x, places, squareAt.keySet());
    for (List<Integer> spot : sheet) for (int d = 0; d < 2; d++) {
      Integer here = squareAt.get(spot.subList(0, 2)), there = squareAt.get(List.of(spot.get(0) + DX[d], spot.get(1) + DY[d]));
      if (here == null) continue;
      int turn = comings.get(here).iterator().next().get(2);
      List<Integer> row = across.get(4 * here + Math.floorMod(d - turn, 4));
      int want = there == null ? NO : row.get(3) == 0 ? row.get(2) : 5;
      due("what is in direction " + d + " of " + spot + " behind " + x, spot.get(3 + d), want);
    }
  }

  /** The same for skins with HOLLOW and FLAT EDGES, cut to trees and to a little more or less than that. */
  static void term2SkinsAreLaidOrItIsToldWhyNot() {
    Random random = new Random(2);
    Map<Integer, Integer> answers = new HashMap<>();
    for (int[] layers : WELL) for (int i = 0; i < 30; i++) {
      Run x = cutAtRandom(layers, random, i % 5);
      List<List<Integer>> across = Space.across(x);
      int why = why(comings(across, 30));
      int got = x.call("open");
      due("why it can't be opened behind " + x, Math.min(got, 0), why);
      answers.merge(why, 1, Integer::sum);
      if (got < 0) continue;
      int uncut = 0;
      for (List<Integer> row : across) uncut += 1 - row.get(3);
      due("the CREASES behind " + x, got, uncut / 2);
      dueLaid(x, across);
    }
    for (int why : new int[] {0, -21, -22, -23}) due("runs that answer " + why, answers.getOrDefault(why, 0) > 5, true);
  }

  /** Cuts all but a tree; slip 1: one more, 2: one less, 3: all but the tree and the FLAT ones, if they make no ring. */
  private static Run cutAtRandom(int[] layers, Random random, int slip) {
    Run x = body(layers);
    List<List<Integer>> across = Space.across(x);
    int squares = across.size() / 4;
    Set<Integer> in = new HashSet<>(Set.of(0)), left = new HashSet<>();
    List<Integer> row = new ArrayList<>(List.of(0));
    // So many tries are plenty, if the SQUARES hang together at all.
    for (int tries = 0; tries < 50000 && in.size() < squares; tries++) {
      int from = row.get(slip % 2 == 0 ? random.nextInt(row.size()) : Math.max(0, row.size() - 1 - random.nextInt(4)));
      int side = 4 * from + random.nextInt(4), to = across.get(side).get(0);
      if (random.nextInt(50) == 0) row.add(row.get(random.nextInt(row.size())));
      if (!in.add(to)) continue;
      row.add(to);
      left.add(side);
      left.add(4 * to + across.get(side).get(1));
    }
    for (int i = 0; i < 4 * squares; i++) {
      int other = 4 * across.get(i).get(0) + across.get(i).get(1);
      boolean isFlatToo = slip == 3 && across.get(i).get(2) == 0;
      if (i < other && !left.contains(i) && !isFlatToo) x.call("cut", i / 4, i % 4, 1);
    }
    if (slip == 1 || slip == 2) x.call("cut", random.nextInt(squares), random.nextInt(4), 2 - slip);
    return x;
  }
}
