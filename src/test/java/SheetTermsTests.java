import java.util.ArrayList;
import java.util.Collections;
import java.util.HashMap;
import java.util.HashSet;
import java.util.List;
import java.util.Map;
import java.util.Random;
import java.util.Set;
import java.util.TreeMap;

/** Terms 3 to 6 of the document, sentence by sentence, as far as a call's answer can show them. */
public final class SheetTermsTests extends Checks {
  public static void main(String[] args) {
    runTests(SheetTermsTests.class, "term");
  }

  private static final int[] DX = {1, 0, -1, 0}, DY = {0, 1, 0, -1};
  private static final int[] QUARTERS = {0, 1, 9};

  private static Run sheet(int[]... creases) { return draw(new Run(), creases); }

  /** So many SPOTS that hang together, with QUARTERS by chance, and at times more CREASES than it needs for that. */
  private static Run anySheet(Random random, int spots) {
    Run x = new Run();
    List<List<Integer>> places = new ArrayList<>(List.of(List.of(random.nextInt(9) - 4, random.nextInt(9) - 4)));
    x.call("spot", places.get(0).get(0), places.get(0).get(1), 1);
    boolean rings = random.nextBoolean(), level = random.nextInt(3) == 0;
    while (places.size() < spots) {
      List<Integer> from = places.get(random.nextInt(places.size()));
      int d = random.nextInt(4), quarter = level ? 0 : QUARTERS[random.nextInt(3)];
      List<Integer> to = List.of(from.get(0) + DX[d], from.get(1) + DY[d]);
      boolean isNew = !places.contains(to);
      if (isNew) {
        x.call("spot", to.get(0), to.get(1), 1);
        places.add(to);
      }
      if (isNew || rings) x.call("crease", from.get(0), from.get(1), d, quarter);
    }
    return x;
  }

  /** The QUARTERS of a SHEET by place and direction, each CREASE from both sides; places in the order of their numbers. */
  private static Map<List<Integer>, Map<Integer, Integer>> drawn(Run x) {
    Map<List<Integer>, Map<Integer, Integer>> drawn = new TreeMap<>(SheetTermsTests::byYThenX);
    List<List<Integer>> rows = State.sheet(x);
    for (List<Integer> row : rows) drawn.put(row.subList(0, 2), new HashMap<>());
    for (List<Integer> row : rows) for (int d = 0; d < 2; d++) {
      int number = row.get(3 + d);
      if (number == 5 || number == NO) continue;
      drawn.get(row.subList(0, 2)).put(d, number == 9 ? -1 : number);
      drawn.get(beside(row, d)).put(d + 2, number == 9 ? -1 : number);
    }
    return drawn;
  }

  private static List<Integer> beside(List<Integer> place, int d) { return List.of(place.get(0) + DX[d], place.get(1) + DY[d]); }

  private static int byYThenX(List<Integer> a, List<Integer> b) {
    return a.get(1).equals(b.get(1)) ? a.get(0) - b.get(0) : a.get(1) - b.get(1);
  }

  // ---- 3: the sheet in hand, and folded

  /** "THE SHEET IN HAND .. has SPOTS, .. no two at one place, numbered by y, then by x." */
  static void term3SpotsAreNumberedByYThenXAsTheyComeAndGo() {
    Random random = new Random(3);
    List<List<Integer>> places = new ArrayList<>();
    Run x = new Run();
    for (int i = 0; i < 160; i++) {
      List<Integer> place = List.of(random.nextInt(9) - 4, random.nextInt(9) - 4);
      int on = random.nextInt(3) == 0 ? 0 : 1;
      due(x, places.contains(place) ? 1 : places.size() == 60 && on == 1 ? FULL : 0, "spot", place.get(0), place.get(1), on);
      if (on == 0) places.remove(place);
      else if (!places.contains(place) && places.size() < 60) places.add(place);
      if (i % 20 != 19) continue;
      places.sort(SheetTermsTests::byYThenX);
      due("the SPOTS behind " + x, new ArrayList<>(drawn(x).keySet()), places);
    }
  }

  /** "Two SPOTS side by side may have a CREASE between them, with a QUARTER 1, 0 or -1." */
  static void term3OnlySpotsSideBySideHaveACrease() {
    int[][] apart = {{2, 0}, {1, 1}, {-1, 1}, {0, 2}, {3, 3}};
    for (int[] other : apart) {
      Run x = new Run().with("spot", 0, 0, 1).with("spot", other[0], other[1], 1);
      for (int d = 0; d < 4; d++) due(x, NO, "crease", 0, 0, d, 0);
    }
    for (int d = 0; d < 4; d++) for (int quarter : QUARTERS) {
      Run x = new Run().with("spot", 0, 0, 1).with("spot", DX[d], DY[d], 1);
      due(x, 0, "count", 3);
      due(x, 5, "crease", 0, 0, d, quarter);
      due(x, quarter, "crease", DX[d], DY[d], (d + 2) % 4, quarter);
      due(x, 1, "count", 3);
    }
  }

  /** How a SPOT lies: its middle, RIGHT, UP and FACE. */
  private record Pose(List<Integer> middle, List<Integer> right, List<Integer> up, List<Integer> face) {
    static final Pose FIRST = new Pose(List.of(0, 0, 0), List.of(1, 0, 0), List.of(0, 1, 0), List.of(0, 0, 1));

    /** "Across a CREASE to the right, at a SPOT with middle m, RIGHT r, UP u, FACE f .." */
    Pose toTheRight(int quarter) {
      List<Integer> r = right, f = face;
      if (quarter == 0) return new Pose(Space.plus(middle, Space.twice(r)), r, up, f);
      if (quarter == 1) return new Pose(Space.plus(Space.plus(middle, r), Space.minus(f)), Space.minus(f), up, r);
      return new Pose(Space.plus(Space.plus(middle, r), f), f, up, Space.minus(r));
    }

    /** The same SPOT looked at from the side: what looked up is now to the right. */
    Pose turned() { return new Pose(middle, up, Space.minus(right), face); }

    /** "Across others likewise, what looks there being taken for r." */
    Pose across(int direction, int quarter) {
      Pose pose = this;
      for (int i = 0; i < direction; i++) pose = pose.turned();
      pose = pose.toTheRight(quarter);
      for (int i = direction; i < 4; i++) pose = pose.turned();
      return pose;
    }

    /** What where() is due to tell. */
    List<Integer> told() {
      List<Integer> row = new ArrayList<>(middle);
      row.add(Space.STEPS.indexOf(face));
      row.add(Space.STEPS.indexOf(right));
      row.replaceAll(n -> n < 0 ? n + 1000 : n);
      return row;
    }

    /** The middle of a side, and the axis along which it runs. */
    List<Integer> side(int direction) {
      Pose pose = this;
      for (int i = 0; i < direction; i++) pose = pose.turned();
      List<Integer> row = new ArrayList<>(Space.plus(middle, pose.right));
      row.add(Space.STEPS.indexOf(pose.up) / 2);
      return row;
    }
  }

  /** How SPOTS would lie by all rows of CREASES from SPOT 0 on, by their places. */
  private static Map<List<Integer>, Set<Pose>> poses(Map<List<Integer>, Map<Integer, Integer>> drawn) {
    Map<List<Integer>, Set<Pose>> poses = new TreeMap<>(SheetTermsTests::byYThenX);
    for (List<Integer> place : drawn.keySet()) poses.put(place, new HashSet<>());
    if (poses.isEmpty()) return poses;
    List<Integer> first = drawn.keySet().iterator().next();
    List<List<Integer>> places = new ArrayList<>(List.of(first));
    List<Pose> todo = new ArrayList<>(List.of(Pose.FIRST));
    poses.get(first).add(Pose.FIRST);
    // Rows that go round and round may lead ever further away: so far is enough.
    for (int i = 0; i < todo.size() && i < 3000; i++)
      for (Map.Entry<Integer, Integer> crease : drawn.get(places.get(i)).entrySet()) {
        List<Integer> place = beside(places.get(i), crease.getKey());
        Pose pose = todo.get(i).across(crease.getKey(), crease.getValue());
        if (!poses.get(place).add(pose)) continue;
        places.add(place);
        todo.add(pose);
      }
    return poses;
  }

  /** "It can't be folded: 1 it has no SPOTS, or they do not all hang together by CREASES; 2 ..; 3 .." */
  private static int why(Map<List<Integer>, Set<Pose>> poses) {
    if (poses.isEmpty() || poses.containsValue(Set.<Pose>of())) return 1;
    Set<List<Integer>> middles = new HashSet<>();
    for (Set<Pose> ways : poses.values()) {
      if (ways.size() > 1) return 2;
      for (Pose pose : ways) middles.add(pose.middle());
    }
    return middles.size() < poses.size() ? 3 : 0;
  }

  /** "It is CLOSED, if it can, and on each side of each SPOT .. there lies just one other SPOT's side." */
  private static boolean isClosed(Map<List<Integer>, Set<Pose>> poses) {
    Map<List<Integer>, Integer> sides = new HashMap<>();
    for (Set<Pose> ways : poses.values()) for (Pose pose : ways) for (int d = 0; d < 4; d++) sides.merge(pose.side(d), 1, Integer::sum);
    return why(poses) == 0 && sides.values().stream().allMatch(many -> many == 2);
  }

  private static void dueFolded(Run x) {
    Map<List<Integer>, Set<Pose>> poses = poses(drawn(x));
    int why = why(poses), spot = 0;
    due(x, why, "fold");
    due(x, isClosed(poses) ? 1 : 0, "closed");
    for (Set<Pose> ways : poses.values()) {
      List<Integer> row = why == 0 ? ways.iterator().next().told() : Collections.nCopies(5, NO);
      for (int what = 0; what < 5; what++) due(x, row.get(what), "where", spot, what);
      spot++;
    }
  }

  /** "Across a CREASE to the right ..: QUARTER 0: .. 1: .. -1: .. Across others likewise" */
  static void term3RowsOfThreeCreasesInAllWaysAreFolded() {
    int[] numbers = new int[6];
    for (int i = 0; i < 12 * 12 * 12; i++) {
      for (int k = 0, rest = i; k < 3; k++, rest /= 12) {
        numbers[2 * k] = rest % 4;
        numbers[2 * k + 1] = QUARTERS[rest / 4 % 3];
      }
      Run x = new Run().with("spot", 0, 0, 1);
      for (int k = 0, px = 0, py = 0; k < 3; px += DX[numbers[2 * k]], py += DY[numbers[2 * k]], k++)
        draw(x, new int[] {px, py, numbers[2 * k], numbers[2 * k + 1]});
      dueFolded(x);
    }
  }

  static void term3AnySheetIsFoldedOrItIsToldWhyNot() {
    Random random = new Random(4);
    Map<Integer, Integer> answers = new HashMap<>();
    for (int i = 0; i < 400; i++) {
      Run x = anySheet(random, 1 + random.nextInt(i % 8 == 0 ? 40 : 9));
      if (random.nextInt(8) == 0) x.call("spot", 20, 20, 1);
      dueFolded(x);
      answers.merge(x.twin().call("fold"), 1, Integer::sum);
    }
    for (int why = 0; why < 4; why++) due("SHEETS of which fold() tells " + why, answers.getOrDefault(why, 0) > 10, true);
  }

  /** "on each side of each SPOT (the middle of that side, and how the side runs) there lies just one other SPOT's side" */
  static void term3ACrossWithAllQuartersIsClosedOrNot() {
    int closed = 0;
    for (int i = 0; i < 243; i++) {
      int[][] cross = new int[5][];
      for (int k = 0, rest = i; k < 5; k++, rest /= 3) cross[k] = new int[] {CROSS[k][0], CROSS[k][1], CROSS[k][2], QUARTERS[rest % 3]};
      Run x = sheet(cross);
      dueFolded(x);
      closed += x.call("closed");
    }
    // All bent away from the FACE, or all toward it.
    due("crosses that close", closed, 2);
  }

  /** A skin that is opened and folded is the skin again: its SPOTS lie as its SQUARES do, looked at from SPOT 0's. */
  static void term3AnOpenedSkinIsFoldedToWhatItWas() {
    for (int[] layers : new int[][] {{1}, {3, 1}, {0x23, 0x20}, {0x757}, {0xF99F, 1, 1, 1}}) {
      Net net = Net.whole(layers);
      Run x = net.cut().with("open");
      due(x, 0, "fold");
      due(x, 1, "closed");
      List<Space.Square> skin = Space.skin(layers);
      Map<List<Integer>, Integer> squareAt = new TreeMap<>(SheetTermsTests::byYThenX);
      for (int i = 0; i < net.squares; i++) squareAt.put(net.place(i), i);
      List<Integer> squares = new ArrayList<>(squareAt.values());
      int first = squares.get(0);
      for (int spot = 0; spot < squares.size(); spot += 1 + squares.size() / 40)
        for (int what = 0; what < 5; what++)
          due(x.twin(), lies(skin, net, first, squares.get(spot)).told().get(what), "where", spot, what);
    }
  }

  /** The DIRECTION in which a SQUARE's side looks that is laid in a direction of the SHEET. */
  private static List<Integer> looks(List<Space.Square> skin, Net net, int square, int direction) {
    return Space.step(Space.looks(skin.get(square).direction(), Math.floorMod(direction - net.turn(square), 4)));
  }

  private static Pose lies(List<Space.Square> skin, Net net, int first, int square) {
    List<List<Integer>> frame = List.of(looks(skin, net, first, 0), looks(skin, net, first, 1), Space.step(skin.get(first).direction()));
    List<Integer> away = Space.plus(skin.get(square).middle(), Space.minus(skin.get(first).middle()));
    return new Pose(seen(frame, away), seen(frame, looks(skin, net, square, 0)), seen(frame, looks(skin, net, square, 1)),
      seen(frame, Space.step(skin.get(square).direction())));
  }

  private static List<Integer> seen(List<List<Integer>> frame, List<Integer> v) {
    return List.of(Space.dot(frame.get(0), v), Space.dot(frame.get(1), v), Space.dot(frame.get(2), v));
  }

  // ---- 4: the form

  /** "each moved so that the least x and the least y are 0, and written as a row of numbers: for its SPOTS in order y, x, .." */
  private static List<Integer> written(Run x) {
    Map<List<Integer>, Map<Integer, Integer>> drawn = drawn(x);
    int leastX = drawn.keySet().stream().mapToInt(p -> p.get(0)).min().orElse(0);
    int leastY = drawn.keySet().stream().mapToInt(p -> p.get(1)).min().orElse(0);
    List<Integer> row = new ArrayList<>();
    for (Map.Entry<List<Integer>, Map<Integer, Integer>> spot : drawn.entrySet()) {
      row.add(spot.getKey().get(1) - leastY);
      row.add(spot.getKey().get(0) - leastX);
      for (int d = 0; d < 2; d++) row.add(spot.getValue().containsKey(d) ? 2 + spot.getValue().get(d) : 0);
    }
    return row;
  }

  /** "of the eight that come of it by quarter turns and turning over" */
  private static List<List<Integer>> eight(Run x) {
    Run twin = x.twin();
    List<List<Integer>> rows = new ArrayList<>();
    for (int i = 0; i < 8; i++) {
      rows.add(written(twin));
      twin.call("turn", 0);
      if (i == 3) twin.call("turn", 1);
    }
    return rows;
  }

  private static int compare(List<Integer> a, List<Integer> b) {
    for (int i = 0; i < a.size(); i++) if (!a.get(i).equals(b.get(i))) return a.get(i) - b.get(i);
    return 0;
  }

  private static List<Integer> formOf(Run x) {
    Run twin = x.twin();
    List<Integer> form = new ArrayList<>();
    for (int number = twin.call("form", 0); number != NONE; number = twin.call("form", form.size())) form.add(number);
    return form;
  }

  /** "the least (the first number that differs decides; all have the same length)" */
  static void term4TheFormIsTheLeastOfTheEight() {
    Random random = new Random(5);
    Map<Integer, Integer> answers = new HashMap<>();
    List<Run> sheets = new ArrayList<>(List.of(new Run(), sheet(CROSS), sheet(RING), sheet(RING).with("crease", 0, 1, 0, 0), block(60), row(60, 3)));
    for (int i = 0; i < 150; i++) sheets.add(anySheet(random, 1 + random.nextInt(i % 10 == 0 ? 60 : 5)));
    for (Run x : sheets) {
      List<List<Integer>> rows = eight(x);
      List<Integer> least = Collections.min(rows, SheetTermsTests::compare);
      due("THE FORM behind " + x, formOf(x), least);
      due(x, Collections.frequency(rows, least), "same");
      answers.merge(Collections.frequency(rows, least), 1, Integer::sum);
    }
    for (int same : new int[] {1, 2, 4, 8}) due("SHEETS of which same() tells " + same, answers.getOrDefault(same, 0) > 0, true);
  }

  /** "(turning over leaves QUARTERS)" */
  static void term4TurningOverLeavesQuarters() {
    int[][] creases = {{0, 0, 1}, {-1, 0, 0}};
    for (int quarter : QUARTERS) for (int how = 0; how < 2; how++) {
      Run x = sheet(new int[] {0, 0, 0, quarter}).with("shelve", 0).with("turn", how);
      int[] c = creases[how];
      for (int other : QUARTERS) {
        Run twin = x.twin();
        due(twin, quarter, "crease", c[0], c[1], c[2], other);
        due(twin, other == quarter ? 1 : 0, "alike", 0);
      }
    }
  }

  /** "Two sheets of as many SPOTS are ALIKE if their FORMS are the same." */
  static void term4AlikeIfTheirFormsAreTheSame() {
    Random random = new Random(6);
    int alike = 0;
    for (int i = 0; i < 120; i++) {
      Run x = anySheet(random, 1 + random.nextInt(4)).with("shelve", i % 6);
      List<Integer> form = formOf(x);
      x.call("clear");
      List<List<Integer>> rows = State.sheet(anySheet(random, 1 + random.nextInt(4)));
      for (List<Integer> row : rows) x.call("spot", row.get(0), row.get(1), 1);
      for (List<Integer> row : rows) for (int d = 0; d < 2; d++) if (row.get(3 + d) >= 0) x.call("crease", row.get(0), row.get(1), d, row.get(3 + d));
      boolean same = formOf(x).equals(form);
      due(x, same ? 1 : 0, "alike", i % 6);
      alike += same ? 1 : 0;
    }
    due("pairs that are ALIKE", alike > 10 && alike < 110, true);
  }

  // ---- 5: wrapping

  /** All WAYS by trying each SQUARE, TURN and side of the SHEET: rows of SQUARE, TURN, turned over. */
  private static List<List<Integer>> ways(Run x) {
    Map<List<Integer>, Map<Integer, Integer>> drawn = drawn(x);
    List<List<Integer>> across = Space.across(x), ways = new ArrayList<>();
    int squares = across.size() / 4;
    for (int over = 0; over < 2; over++) for (int start = 0; start < 4 * squares; start++)
      if (drawn.size() == squares && fits(drawn, across, start, over == 1)) ways.add(List.of(start / 4, start % 4, over));
    return ways;
  }

  /** "each SPOT lies on a SQUARE, with a TURN, such that across each CREASE lies the SQUARE that is across that SIDE, .. and no two on one" */
  private static boolean fits(Map<List<Integer>, Map<Integer, Integer>> drawn, List<List<Integer>> across, int start, boolean over) {
    Map<List<Integer>, Integer> lies = new HashMap<>();
    List<List<Integer>> todo = new ArrayList<>();
    for (List<Integer> place : drawn.keySet()) if (todo.isEmpty()) todo.add(place);
    lies.put(todo.get(0), start);
    for (int i = 0; i < todo.size(); i++) for (int d : drawn.get(todo.get(i)).keySet()) {
      // "x becomes - x for all SPOTS": what looked x up looks x down.
      int direction = over && d % 2 == 0 ? (d + 2) % 4 : d;
      int square = lies.get(todo.get(i)) / 4, turn = lies.get(todo.get(i)) % 4;
      List<Integer> there = across.get(4 * square + Math.floorMod(direction - turn, 4));
      int next = 4 * there.get(0) + Math.floorMod(direction + 2 - there.get(1), 4);
      List<Integer> place = beside(todo.get(i), d);
      if (lies.containsKey(place) && lies.get(place) != next) return false;
      if (lies.put(place, next) == null) todo.add(place);
    }
    Set<Integer> taken = new HashSet<>();
    for (int at : lies.values()) taken.add(at / 4);
    return taken.size() == drawn.size();
  }

  private static void dueWays(Run x) {
    List<List<Integer>> ways = ways(x);
    due(x.twin(), ways.size(), "wraps");
    for (int what = 0; what < 3; what++) {
      Run twin = x.twin();
      for (int i = 0; i < ways.size(); i++) due(twin, ways.get(i).get(what), "way", i, what);
      due(twin, NONE, "way", ways.size(), what);
    }
  }

  /** "A WAY is where SPOT 0 lies: the SQUARE and TURN; and whether the SHEET is turned over ahead of that" */
  static void term5AllWaysAreToldInOrder() {
    int[][] bodies = {{1}, {3}, {0x13}, {3, 1}, {0x23, 0x20}, {0x33}, {0x47}, {7, 2}, {0x757}, {0xF99F, 1, 1, 1}};
    Set<Integer> many = new HashSet<>();
    for (int[] layers : bodies) {
      Net net = Net.whole(layers);
      Run x = net.cut().with("open");
      for (int how : new int[] {0, 0, 0, 1, 0}) {
        dueWays(x);
        x.call("turn", how);
      }
      many.add(x.twin().call("wraps"));
    }
    due("numbers of WAYS", many.containsAll(Set.of(2, 4, 16, 48)), true);
  }

  /** "(QUARTERS are not looked at): it has as many SPOTS as THE SKIN has SQUARES, hangs together by CREASES" */
  static void term5AnySheetOfAsManySpots() {
    Random random = new Random(7);
    int wraps = 0;
    for (int i = 0; i < 300; i++) {
      Run x = anySheet(random, i % 3 == 0 ? 10 : 6);
      if (i % 3 == 0) x.call("box", 1, 2, 1);
      else x.call("box", 1, 1, 1);
      if (random.nextInt(6) == 0) x.call("crease", x.call("told", 2, 0), x.call("told", 2, 1), random.nextInt(4), 5);
      dueWays(x);
      wraps += x.call("wraps") > 0 ? 1 : 0;
    }
    due("SHEETS that WRAP", wraps > 20 && wraps < 280, true);
  }

  // ---- 6: changes

  /** "undo() takes back the latest that is kept: BODY, cuts and SHEET are as they were. The latest 8 are kept." */
  static void term6EachOfTheLatest8IsTakenBack() {
    Random random = new Random(8);
    for (int i = 0; i < 60; i++) {
      Run x = new Run().with("box", 2, 1, 1);
      List<List<String>> states = new ArrayList<>();
      for (int changes = 1; changes < 14; ) {
        List<String> before = State.now(x).subList(0, 6);
        if (!change(x, random)) continue;
        changes++;
        states.add(before);
      }
      for (int left = 7; left >= 0; left--) {
        due(x, left, "undo");
        due("the state behind " + x, State.now(x).subList(0, 6), states.remove(states.size() - 1));
      }
      due(x, NO, "undo");
    }
  }

  /** One of the calls that may be CHANGES; whether it was one. */
  private static boolean change(Run x, Random random) {
    switch (random.nextInt(11)) {
      case 0: return x.call("layer", random.nextInt(4), random.nextInt(65536) & random.nextInt(65536)) >= 0;
      case 1: return x.call("lose", random.nextInt(4)) >= 0;
      case 2: return x.call("cube", random.nextInt(4), random.nextInt(17), random.nextInt(2)) >= 0;
      case 3: return x.call("copy", random.nextInt(4), random.nextInt(9), random.nextInt(4), random.nextInt(9), random.nextInt(9)) >= 0;
      case 4: return x.call("box", 1 + random.nextInt(4), 1 + random.nextInt(2), 1) >= 0;
      case 5: return x.call("cut", random.nextInt(9), random.nextInt(4), 1) >= 0;
      case 6: return x.call("spot", random.nextInt(4), random.nextInt(3), random.nextInt(4) == 0 ? 0 : 1) >= 0;
      case 7: return x.call("crease", random.nextInt(4), random.nextInt(3), random.nextInt(4), QUARTERS[random.nextInt(3)]) >= 0;
      case 8: return x.call("open") >= 0;
      case 9: return x.call("turn", random.nextInt(3)) >= 0;
      default: return random.nextInt(4) == 0 && x.call("clear") >= 0;
    }
  }

  /** "FINDINGS: NOTHING: a LAYER is MISSING; INDEX: there are no such places." */
  static void term6FindingsTellOfLayersAndPlaces() {
    Run x = new Run().with("layer", 1, 0xFFFF);
    int[][] missing = {{0}, {2}, {3}};
    for (int[] z : missing) {
      refused(x, NOTHING, "lose", z[0]);
      refused(x, NOTHING, "cube", z[0], 0, 1);
      refused(x, NOTHING, "copy", z[0], 0, 1, 0, 1);
      refused(x, NOTHING, "copy", 1, 0, z[0], 0, 1);
    }
    refused(x, INDEX, "cube", 1, 16, 0);
    refused(x, INDEX, "copy", 1, 9, 1, 0, 8);
    refused(x, INDEX, "copy", 1, 0, 1, 9, 8);
  }
}
