import java.util.ArrayDeque;
import java.util.ArrayList;
import java.util.Arrays;
import java.util.Deque;
import java.util.HashMap;
import java.util.HashSet;
import java.util.List;
import java.util.Map;
import java.util.Random;
import java.util.Set;
import java.util.TreeSet;

/**
 * Long runs of calls, drawn from fixed seeds, on the class and on a slow model of the document that
 * is written in another way: bodies and skins by points in space, sheets by sets of points.
 */
public final class ModelTests {
  private static final int CALLS = 512;
  private static int wrong = 0;

  public static void main(String[] args) {
    int runs = args.length > 0 ? Integer.parseInt(args[0]) : 400;
    for (int seed = 0; seed < runs && wrong < 5; seed++) {
      new Run(seed).play();
    }
    if (wrong == 0) {
      everyBodyAboutACorner();
      bodiesWithFaults();
    }
    System.out.println(wrong == 0 ? "the class and the model agree" : wrong + " runs disagree");
    if (wrong != 0) System.exit(1);
  }

  /** A whole point; sheets use x and y alone. */
  private record P(int x, int y, int z) implements Comparable<P> {
    P plus(P o) { return new P(x + o.x, y + o.y, z + o.z); }
    P minus() { return new P(-x, -y, -z); }
    P times(int n) { return new P(n * x, n * y, n * z); }
    public int compareTo(P o) {
      if (z != o.z) return Integer.compare(z, o.z);
      if (y != o.y) return Integer.compare(y, o.y);
      return Integer.compare(x, o.x);
    }
  }

  private static final P[] DIRECTIONS = {
    new P(1, 0, 0), new P(-1, 0, 0), new P(0, 1, 0), new P(0, -1, 0), new P(0, 0, 1), new P(0, 0, -1),
  };
  private static final P[] FLAT_DIRECTIONS = {
    new P(1, 0, 0), new P(0, 1, 0), new P(-1, 0, 0), new P(0, -1, 0),
  };

  private static int directionOf(P step) {
    for (int d = 0; d < 6; d++) if (DIRECTIONS[d].equals(step)) return d;
    throw new IllegalStateException("no direction " + step);
  }

  /** Where a side looks, by the words of Terms 1. */
  private static P looks(int direction, int side) {
    int a = direction / 2, u = (a + 1) % 3, v = (a + 2) % 3;
    P uUp = DIRECTIONS[2 * u], vUp = DIRECTIONS[2 * v];
    boolean up = direction % 2 == 0;
    switch (side) {
      case 0: return uUp;
      case 1: return up ? vUp : vUp.minus();
      case 2: return uUp.minus();
      default: return up ? vUp.minus() : vUp;
    }
  }

  /** Whether points hang together by single steps. */
  private static boolean hang(Set<P> points) {
    if (points.isEmpty()) return true;
    Set<P> seen = new HashSet<>();
    Deque<P> todo = new ArrayDeque<>();
    P first = points.iterator().next();
    seen.add(first);
    todo.add(first);
    while (!todo.isEmpty()) {
      P p = todo.remove();
      for (P d : DIRECTIONS) {
        P q = p.plus(d);
        if (points.contains(q) && seen.add(q)) todo.add(q);
      }
    }
    return seen.size() == points.size();
  }

  /** A square: its cube at twice its numbers, so that its middle and its sides' middles are whole. */
  private record Square(P cube, int direction) {
    P middle() { return cube.times(2).plus(DIRECTIONS[direction]); }
    P edge(int side) { return middle().plus(looks(direction, side)); }
  }

  private static final class Sheet {
    final TreeSet<P> spots = new TreeSet<>();
    // By the middle between two spots, in halves.
    final Map<P, Integer> creases = new HashMap<>();

    Sheet twin() {
      Sheet s = new Sheet();
      s.spots.addAll(spots);
      s.creases.putAll(creases);
      return s;
    }
    static P between(P spot, int direction) { return spot.times(2).plus(FLAT_DIRECTIONS[direction]); }
    List<P> list() { return new ArrayList<>(spots); }
    Sheet turned(int how) {
      Sheet s = new Sheet();
      for (P p : spots) s.spots.add(turnedPoint(p, how));
      for (Map.Entry<P, Integer> e : creases.entrySet()) s.creases.put(turnedPoint(e.getKey(), how), e.getValue());
      return s;
    }
    static P turnedPoint(P p, int how) { return how == 0 ? new P(-p.y(), p.x(), 0) : new P(-p.x(), p.y(), 0); }
    List<Integer> written() {
      int lx = 1000, ly = 1000;
      for (P p : spots) { lx = Math.min(lx, p.x()); ly = Math.min(ly, p.y()); }
      List<Integer> row = new ArrayList<>();
      for (P p : spots) {
        row.add(p.y() - ly);
        row.add(p.x() - lx);
        for (int d = 0; d < 2; d++) {
          Integer q = creases.get(between(p, d));
          row.add(q == null ? 0 : 2 + q);
        }
      }
      return row;
    }
    List<List<Integer>> eight() {
      List<List<Integer>> all = new ArrayList<>();
      Sheet s = this;
      for (int over = 0; over < 2; over++) {
        for (int quarters = 0; quarters < 4; quarters++) {
          all.add(s.written());
          s = s.turned(0);
        }
        s = s.turned(1);
      }
      return all;
    }
    List<Integer> form() {
      List<Integer> best = null;
      for (List<Integer> row : eight()) if (best == null || before(row, best)) best = row;
      return best;
    }
    static boolean before(List<Integer> a, List<Integer> b) {
      for (int i = 0; i < a.size(); i++) {
        int c = Integer.compare(a.get(i), b.get(i));
        if (c != 0) return c < 0;
      }
      return false;
    }
    int hangsFrom(P start) {
      Set<P> seen = new HashSet<>(Set.of(start));
      Deque<P> todo = new ArrayDeque<>(seen);
      while (!todo.isEmpty()) {
        P p = todo.remove();
        for (int d = 0; d < 4; d++) {
          if (creases.containsKey(between(p, d)) && seen.add(p.plus(FLAT_DIRECTIONS[d]))) todo.add(p.plus(FLAT_DIRECTIONS[d]));
        }
      }
      return seen.size();
    }
  }

  private record Pose(P middle, P right, P up, P face) {
    P toward(int d) { return d == 0 ? right : d == 1 ? up : d == 2 ? right.minus() : up.minus(); }
    /** Turned about the side's own line: what looked there looks away from the face, or to it. */
    Pose across(int d, int quarter) {
      P t = toward(d);
      if (quarter == 0) return new Pose(middle.plus(t).plus(t), right, up, face);
      P on = quarter == 1 ? face.minus() : face;
      P f = quarter == 1 ? t : t.minus();
      P m = middle.plus(t).plus(on);
      switch (d) {
        case 0: return new Pose(m, on, up, f);
        case 1: return new Pose(m, right, on, f);
        case 2: return new Pose(m, on.minus(), up, f);
        default: return new Pose(m, right, on.minus(), f);
      }
    }
  }

  private static final class Model {
    int[] layers = {-1, -1, -1, -1};
    Set<P> cutEdges = new HashSet<>();
    Sheet sheet = new Sheet();
    final Sheet[] shelves = new Sheet[6];
    final Deque<Object[]> past = new ArrayDeque<>();
    // Worked out as the body changes.
    Set<P> cubes = new TreeSet<>();
    List<Square> squares = new ArrayList<>();
    Map<P, List<int[]>> byEdge = new HashMap<>();
    int fault = 1;

    Model() { for (int k = 0; k < 6; k++) shelves[k] = new Sheet(); }

    void keep() {
      past.addLast(new Object[] {layers.clone(), new HashSet<>(cutEdges), sheet.twin()});
      if (past.size() > 8) past.removeFirst();
    }
    void change() { cutEdges.clear(); look(); }
    void look() {
      cubes = new TreeSet<>();
      for (int z = 0; z < 4; z++) for (int b = 0; b < 16; b++)
        if (layers[z] >= 0 && (layers[z] >> b & 1) == 1) cubes.add(new P(b % 4, b / 4, z));
      squares = new ArrayList<>();
      for (P c : cubes) for (int d = 0; d < 6; d++)
        if (!cubes.contains(c.plus(DIRECTIONS[d]))) squares.add(new Square(c, d));
      byEdge = new HashMap<>();
      for (int i = 0; i < squares.size(); i++) for (int k = 0; k < 4; k++)
        byEdge.computeIfAbsent(squares.get(i).edge(k), e -> new ArrayList<>()).add(new int[] {i, k});
      fault = fault(cubes);
    }
    static int fault(Set<P> cubes) {
      if (cubes.isEmpty()) return 1;
      if (!hang(cubes)) return 2;
      // Points between cubes, in halves: one even number is an edge's middle, none a corner.
      Map<P, Set<P>> having = new HashMap<>();
      for (P c : cubes) for (int dx = -1; dx <= 1; dx++) for (int dy = -1; dy <= 1; dy++) for (int dz = -1; dz <= 1; dz++)
        if (Math.abs(dx) + Math.abs(dy) + Math.abs(dz) >= 2)
          having.computeIfAbsent(c.times(2).plus(new P(dx, dy, dz)), e -> new HashSet<>()).add(c);
      for (Set<P> about : having.values()) if (!hang(about)) return 3;
      Set<P> empty = new HashSet<>();
      for (int x = -1; x <= 4; x++) for (int y = -1; y <= 4; y++) for (int z = -1; z <= 4; z++)
        if (!cubes.contains(new P(x, y, z))) empty.add(new P(x, y, z));
      return hang(empty) ? 0 : 4;
    }
    int[] other(int square, int side) {
      List<int[]> both = byEdge.get(squares.get(square).edge(side));
      int[] first = both.get(0);
      return first[0] == square && first[1] == side ? both.get(1) : first;
    }
    int bend(int square, int side) {
      Square a = squares.get(square), b = squares.get(other(square, side)[0]);
      if (a.cube().equals(b.cube())) return 1;
      return a.direction() == b.direction() ? 0 : -1;
    }
    boolean isCut(int square, int side) { return cutEdges.contains(squares.get(square).edge(side)); }

    static boolean in(int n, int bound) { return n >= 0 && n < bound; }
    static int told(int step) { return step == -1 ? 9 : step; }

    int call(String name, int[] a) {
      switch (name) {
        case "layer":
          if (!in(a[0], 4)) return -3;
          keep(); layers[a[0]] = a[1] & 65535; change();
          return Integer.bitCount(layers[a[0]]);
        case "lose": {
          if (!in(a[0], 4)) return -3;
          if (layers[a[0]] < 0) return -11;
          keep(); int had = Integer.bitCount(layers[a[0]]); layers[a[0]] = -1; change();
          return had;
        }
        case "cube": {
          if (!in(a[0], 4) || !in(a[2], 2)) return -3;
          if (layers[a[0]] < 0) return -11;
          if (!in(a[1], 16)) return -13;
          keep(); int had = layers[a[0]] >> a[1] & 1;
          if (had != a[2]) layers[a[0]] ^= 1 << a[1];
          change();
          return had;
        }
        case "copy": {
          if (!in(a[0], 4) || !in(a[2], 4)) return -3;
          if (layers[a[0]] < 0 || layers[a[2]] < 0) return -11;
          if (a[4] < 0 || a[1] < 0 || a[3] < 0 || (long) a[1] + a[4] > 16 || (long) a[3] + a[4] > 16) return -13;
          keep(); int from = layers[a[0]], to = layers[a[2]];
          for (int i = 0; i < a[4]; i++) {
            to &= ~(1 << a[3] + i);
            if ((from >> a[1] + i & 1) == 1) to |= 1 << a[3] + i;
          }
          layers[a[2]] = to; change();
          return a[4];
        }
        case "box":
          for (int s : a) if (s < 1 || s > 4) return -3;
          keep(); Arrays.fill(layers, -1);
          for (int z = 0; z < a[2]; z++) {
            layers[z] = 0;
            for (int y = 0; y < a[1]; y++) for (int x = 0; x < a[0]; x++) layers[z] |= 1 << 4 * y + x;
          }
          change();
          return a[0] * a[1] * a[2];
        case "well": return fault;
        case "skin": return squares.size();
        case "square": {
          if (!in(a[0], squares.size()) || !in(a[1], 4)) return -3;
          Square s = squares.get(a[0]);
          return new int[] {s.cube().x(), s.cube().y(), s.cube().z(), s.direction()}[a[1]];
        }
        case "across": {
          if (!in(a[0], squares.size()) || !in(a[1], 4) || !in(a[2], 4)) return -3;
          if (fault != 0) return -4;
          int[] o = other(a[0], a[1]);
          return new int[] {o[0], o[1], told(bend(a[0], a[1])), isCut(a[0], a[1]) ? 1 : 0}[a[2]];
        }
        case "cut": {
          if (!in(a[0], squares.size()) || !in(a[1], 4) || !in(a[2], 2)) return -3;
          if (fault != 0) return -4;
          keep(); P e = squares.get(a[0]).edge(a[1]);
          boolean was = a[2] == 1 ? !cutEdges.add(e) : cutEdges.remove(e);
          return was ? 1 : 0;
        }
        case "cuts": return cutEdges.size();
        case "open": return open();
        default: return callSheet(name, a);
      }
    }

    int callSheet(String name, int[] a) {
      switch (name) {
        case "spot": {
          if (Math.abs((long) a[0]) > 30 || Math.abs((long) a[1]) > 30 || !in(a[2], 2)) return -3;
          P p = new P(a[0], a[1], 0);
          boolean was = sheet.spots.contains(p);
          if (a[2] == 1 && !was && sheet.spots.size() == 60) return -5;
          keep();
          if (a[2] == 1) sheet.spots.add(p);
          else {
            sheet.spots.remove(p);
            for (int d = 0; d < 4; d++) sheet.creases.remove(Sheet.between(p, d));
          }
          return was ? 1 : 0;
        }
        case "crease": {
          boolean number = a[3] == 0 || a[3] == 1 || a[3] == 5 || a[3] == 9;
          if (Math.abs((long) a[0]) > 30 || Math.abs((long) a[1]) > 30 || !in(a[2], 4) || !number) return -3;
          P p = new P(a[0], a[1], 0);
          if (!sheet.spots.contains(p) || !sheet.spots.contains(p.plus(FLAT_DIRECTIONS[a[2]]))) return -4;
          keep(); P e = Sheet.between(p, a[2]);
          Integer was = sheet.creases.remove(e);
          if (a[3] != 5) sheet.creases.put(e, a[3] == 9 ? -1 : a[3]);
          return was == null ? 5 : told(was);
        }
        case "turn":
          if (!in(a[0], 2)) return -3;
          keep(); sheet = sheet.turned(a[0]);
          return 0;
        case "clear": {
          keep(); int had = sheet.spots.size(); sheet = new Sheet();
          return had;
        }
        case "told": {
          if (!in(a[0], sheet.spots.size()) || !in(a[1], 3)) return -3;
          P p = sheet.list().get(a[0]);
          int many = 0;
          for (int d = 0; d < 4; d++) if (sheet.creases.containsKey(Sheet.between(p, d))) many++;
          return new int[] {p.x(), p.y(), many}[a[1]];
        }
        case "fold": return fold(null);
        case "where": {
          if (!in(a[0], sheet.spots.size()) || !in(a[1], 5)) return -3;
          Map<P, Pose> poses = new HashMap<>();
          if (fold(poses) != 0) return -4;
          Pose p = poses.get(sheet.list().get(a[0]));
          int[] all = {p.middle().x(), p.middle().y(), p.middle().z(), directionOf(p.face()), directionOf(p.right())};
          return all[a[1]] < 0 ? all[a[1]] + 1000 : all[a[1]];
        }
        case "closed": return closed() ? 1 : 0;
        case "form": {
          if (a[0] < 0) return -3;
          List<Integer> form = sheet.form();
          return a[0] < form.size() ? form.get(a[0]) : -1;
        }
        case "same": {
          int times = 0;
          for (List<Integer> row : sheet.eight()) if (row.equals(sheet.form())) times++;
          return times;
        }
        case "shelve":
          if (!in(a[0], 6)) return -3;
          shelves[a[0]] = sheet.twin();
          return sheet.spots.size();
        case "alike":
          if (!in(a[0], 6)) return -3;
          return sheet.form().equals(shelves[a[0]].form()) ? 1 : 0;
        case "wraps":
          if (fault != 0) return -4;
          return ways().size();
        case "way": {
          if (a[0] < 0 || !in(a[1], 3)) return -3;
          if (fault != 0) return -4;
          List<int[]> ways = ways();
          return a[0] < ways.size() ? ways.get(a[0])[a[1]] : -1;
        }
        case "undo": {
          if (past.isEmpty()) return -4;
          Object[] was = past.removeLast();
          layers = (int[]) was[0];
          look();
          cutEdges = new HashSet<>();
          for (Object e : (Set<?>) was[1]) cutEdges.add((P) e);
          sheet = (Sheet) was[2];
          return past.size();
        }
        case "count": {
          int there = 0;
          for (int bits : layers) if (bits >= 0) there++;
          int[] all = {cubes.size(), there, sheet.spots.size(), sheet.creases.size(), past.size()};
          return in(a[0], 5) ? all[a[0]] : -3;
        }
        default: throw new IllegalStateException(name);
      }
    }

    int open() {
      if (fault != 0) return -4;
      if (squares.size() > 60) return -5;
      Map<Integer, int[]> laid = new HashMap<>();
      laid.put(0, new int[] {0, 0, 0});
      Deque<Integer> todo = new ArrayDeque<>(List.of(0));
      boolean clash = false;
      while (!todo.isEmpty()) {
        int i = todo.remove();
        for (int k = 0; k < 4; k++) {
          if (isCut(i, k)) continue;
          int[] at = laid.get(i), o = other(i, k);
          int d = (k + at[2]) % 4;
          int[] there = {at[0] + FLAT_DIRECTIONS[d].x(), at[1] + FLAT_DIRECTIONS[d].y(), (d + 6 - o[1]) % 4};
          int[] was = laid.putIfAbsent(o[0], there);
          if (was == null) todo.add(o[0]);
          else if (!Arrays.equals(was, there)) clash = true;
        }
      }
      if (laid.size() < squares.size()) return -21;
      if (clash) return -22;
      Sheet s = new Sheet();
      for (int[] at : laid.values()) s.spots.add(new P(at[0], at[1], 0));
      if (s.spots.size() < squares.size()) return -23;
      for (P p : s.spots) if (Math.abs(p.x()) > 30 || Math.abs(p.y()) > 30) return -3;
      for (int i = 0; i < squares.size(); i++) for (int k = 0; k < 4; k++) {
        int[] at = laid.get(i);
        if (!isCut(i, k)) s.creases.put(Sheet.between(new P(at[0], at[1], 0), (k + at[2]) % 4), bend(i, k));
      }
      keep();
      sheet = s;
      return s.creases.size();
    }

    int fold(Map<P, Pose> poses) {
      if (sheet.spots.isEmpty() || sheet.hangsFrom(sheet.spots.first()) < sheet.spots.size()) return 1;
      Map<P, Pose> all = poses == null ? new HashMap<>() : poses;
      all.put(sheet.spots.first(), new Pose(new P(0, 0, 0), new P(1, 0, 0), new P(0, 1, 0), new P(0, 0, 1)));
      Deque<P> todo = new ArrayDeque<>(List.of(sheet.spots.first()));
      while (!todo.isEmpty()) {
        P p = todo.remove();
        for (int d = 0; d < 4; d++) {
          Integer q = sheet.creases.get(Sheet.between(p, d));
          if (q == null) continue;
          Pose there = all.get(p).across(d, q);
          Pose was = all.putIfAbsent(p.plus(FLAT_DIRECTIONS[d]), there);
          if (was == null) todo.add(p.plus(FLAT_DIRECTIONS[d]));
          else if (!was.equals(there)) return 2;
        }
      }
      Set<P> middles = new HashSet<>();
      for (Pose p : all.values()) if (!middles.add(p.middle())) return 3;
      return 0;
    }

    boolean closed() {
      Map<P, Pose> poses = new HashMap<>();
      if (fold(poses) != 0) return false;
      Map<String, Integer> sides = new HashMap<>();
      for (Pose p : poses.values()) for (int d = 0; d < 4; d++)
        sides.merge(p.middle().plus(p.toward(d)) + " " + directionOf(p.toward((d + 1) % 4)) / 2, 1, Integer::sum);
      for (int times : sides.values()) if (times != 2) return false;
      return true;
    }

    List<int[]> ways() {
      List<int[]> ways = new ArrayList<>();
      if (sheet.spots.size() != squares.size()) return ways;
      P first = sheet.spots.first();
      if (sheet.hangsFrom(first) < sheet.spots.size()) return ways;
      for (int over = 0; over < 2; over++) {
        Sheet s = over == 0 ? sheet : sheet.turned(1);
        P start = over == 0 ? first : Sheet.turnedPoint(first, 1);
        for (int i = 0; i < squares.size(); i++) for (int t = 0; t < 4; t++)
          if (wraps(s, start, i, t)) ways.add(new int[] {i, t, over});
      }
      return ways;
    }

    boolean wraps(Sheet s, P start, int square, int turn) {
      Map<P, int[]> lies = new HashMap<>();
      Set<Integer> used = new HashSet<>(Set.of(square));
      lies.put(start, new int[] {square, turn});
      Deque<P> todo = new ArrayDeque<>(List.of(start));
      while (!todo.isEmpty()) {
        P p = todo.remove();
        int[] at = lies.get(p);
        for (int d = 0; d < 4; d++) {
          if (!s.creases.containsKey(Sheet.between(p, d))) continue;
          int[] o = other(at[0], (d - at[1] + 4) % 4);
          int[] there = {o[0], (d + 6 - o[1]) % 4};
          int[] was = lies.putIfAbsent(p.plus(FLAT_DIRECTIONS[d]), there);
          if (was == null) {
            if (!used.add(o[0])) return false;
            todo.add(p.plus(FLAT_DIRECTIONS[d]));
          } else if (!Arrays.equals(was, there)) return false;
        }
      }
      return true;
    }
  }

  private static int call(CubeCarton x, String name, int[] a) {
    switch (name) {
      case "layer": return x.layer(a[0], a[1]);
      case "lose": return x.lose(a[0]);
      case "cube": return x.cube(a[0], a[1], a[2]);
      case "copy": return x.copy(a[0], a[1], a[2], a[3], a[4]);
      case "box": return x.box(a[0], a[1], a[2]);
      case "well": return x.well();
      case "skin": return x.skin();
      case "square": return x.square(a[0], a[1]);
      case "across": return x.across(a[0], a[1], a[2]);
      case "cut": return x.cut(a[0], a[1], a[2]);
      case "cuts": return x.cuts();
      case "open": return x.open();
      case "spot": return x.spot(a[0], a[1], a[2]);
      case "crease": return x.crease(a[0], a[1], a[2], a[3]);
      case "turn": return x.turn(a[0]);
      case "clear": return x.clear();
      case "told": return x.told(a[0], a[1]);
      case "fold": return x.fold();
      case "where": return x.where(a[0], a[1]);
      case "closed": return x.closed();
      case "form": return x.form(a[0]);
      case "same": return x.same();
      case "shelve": return x.shelve(a[0]);
      case "alike": return x.alike(a[0]);
      case "wraps": return x.wraps();
      case "way": return x.way(a[0], a[1]);
      case "undo": return x.undo();
      case "count": return x.count(a[0]);
      default: throw new IllegalStateException(name);
    }
  }

  private static final String[] ASKS = {
    "well", "skin", "square", "across", "cuts", "told", "fold", "where", "closed", "form", "same", "alike", "wraps", "way", "count",
  };
  private static final int[] QUARTERS = {0, 1, 9, 5, 0, 1, 9, 5, 1, 9, 2, -1};
  private static final int[] ODD = {-1, 1000, Integer.MIN_VALUE, Integer.MAX_VALUE, 4, 6, 16, 31, -31, -30, 30};

  /** All 256 bodies within two times two times two places, in the midst of the layers. */
  private static void everyBodyAboutACorner() {
    for (int cells = 0; cells < 256; cells++) {
      Run run = new Run(cells);
      for (int z = 0; z < 2; z++) {
        int row = cells >> 4 * z & 15;
        run.call("layer", z + 1, (row & 3) << 5 | (row >> 2) << 9);
      }
      run.askAllOfTheBody();
    }
  }

  /** Full boxes with some cubes taken out have hollows, edges and corners in all ways. */
  private static void bodiesWithFaults() {
    for (int seed = 0; seed < 1500; seed++) {
      Run run = new Run(seed);
      int gone = seed % 50;
      long cells = -1;
      for (int i = 0; i < gone; i++) cells &= ~(1L << run.random.nextInt(64));
      for (int z = 0; z < 4; z++) run.call("layer", z, (int) (cells >> 16 * z));
      run.call("well");
      run.call("skin");
      if (seed % 25 < 5) run.askAllOfTheBody();
    }
  }

  /** One object and one model, and a hand that knows what makes bodies well and sheets rich. */
  private static final class Run {
    final int seed;
    final Random random;
    final CubeCarton real = new CubeCarton();
    final Model model = new Model();
    final List<String> told = new ArrayList<>();
    boolean failed = false;

    Run(int seed) {
      this.seed = seed;
      random = new Random(seed);
    }

    boolean over() { return failed || told.size() >= CALLS; }

    int call(String name, int... a) {
      if (over()) return 0;
      int got = ModelTests.call(real, name, a);
      int want = model.call(name, a);
      told.add(name + Arrays.toString(a) + " answered " + got);
      if (got != want) {
        failed = true;
        wrong++;
        System.out.println("seed " + seed + ", call " + told.size() + ", due is " + want + ":");
        for (String line : told) System.out.println("  " + line);
      }
      return want;
    }

    /** Mostly within 0 .. bound - 1, at times just beyond, at times far off. */
    int near(int bound) {
      int chance = random.nextInt(40);
      if (chance == 0) return ODD[random.nextInt(ODD.length)];
      if (chance == 1) return bound;
      return bound <= 0 ? 0 : random.nextInt(bound);
    }

    void play() {
      while (!over()) {
        switch (random.nextInt(9)) {
          case 0: anyBody(); break;
          case 1: grow(); break;
          case 2: cutSome(); break;
          case 3: cutToTree(); break;
          case 4: drawSheet(); break;
          case 5: changeSheet(); break;
          case 6: takeBack(); break;
          case 7: call("clear"); drawSheet(); break;
          default: if (random.nextInt(3) == 0) grow(); cutToTree(); break;
        }
        askSome(1 + random.nextInt(8));
        if (random.nextInt(3) == 0) call("shelve", near(6));
      }
    }

    void askAllOfTheBody() {
      call("well");
      call("skin");
      for (int i = 0; i < model.squares.size(); i++) {
        call("square", i, i % 4);
        call("across", i, random.nextInt(4), 0);
        call("across", i, random.nextInt(4), 1);
        call("across", i, random.nextInt(4), 2);
      }
      call("count", 0);
    }

    void askSome(int many) {
      for (int i = 0; i < many; i++) ask(ASKS[random.nextInt(ASKS.length)]);
    }

    void ask(String name) {
      int squares = model.squares.size(), spots = model.sheet.spots.size();
      switch (name) {
        case "square": call(name, near(squares), near(4)); break;
        case "across": call(name, near(squares), near(4), near(4)); break;
        case "told": call(name, near(spots), near(3)); break;
        case "where": call(name, near(spots), near(5)); break;
        case "form": call(name, near(4 * spots)); break;
        case "alike": call(name, near(6)); break;
        case "count": call(name, near(5)); break;
        case "way": {
          int ways = call("wraps");
          for (int what = 0; what < 3; what++) call(name, near(ways), random.nextInt(20) == 0 ? near(3) : what);
          break;
        }
        default: call(name);
      }
    }

    void anyBody() {
      switch (random.nextInt(6)) {
        case 0: call("layer", near(4), random.nextInt()); break;
        case 1: call("layer", near(4), random.nextInt() & random.nextInt() & random.nextInt()); break;
        case 2: call("lose", near(4)); break;
        case 3: call("cube", near(4), near(16), near(2)); break;
        case 4:
          for (int i = 0; i < 3; i++)
            call("copy", near(4), random.nextInt(10) == 0 ? near(20) : near(8), near(4), near(9), random.nextInt(12) - 1);
          break;
        default: call("box", 1 + near(4), 1 + near(4), 1 + near(4)); break;
      }
    }

    /** Lets a small body grow, cube by cube, mostly such that it is well. */
    void grow() {
      for (int z = 0; z < 4; z++) call("layer", z, 0);
      call("cube", random.nextInt(4), random.nextInt(16), 1);
      int aim = 1 + random.nextInt(12), tries = 0;
      while (!over() && model.cubes.size() < aim && tries++ < 60) {
        List<P> cubes = new ArrayList<>(model.cubes);
        if (cubes.isEmpty()) return;
        P p = cubes.get(random.nextInt(cubes.size())).plus(DIRECTIONS[random.nextInt(6)]);
        if (Math.min(p.x(), Math.min(p.y(), p.z())) < 0 || Math.max(p.x(), Math.max(p.y(), p.z())) > 3) continue;
        Set<P> more = new HashSet<>(cubes);
        more.add(p);
        if (Model.fault(more) == 0 || random.nextInt(100) == 0) call("cube", p.z(), 4 * p.y() + p.x(), 1);
      }
      call("well");
      call("skin");
    }

    void cutSome() {
      int many = random.nextInt(6);
      for (int i = 0; i < many; i++) call("cut", near(model.squares.size()), near(4), random.nextInt(4) == 0 ? near(2) : 1);
      call("open");
    }

    /** Cuts all edges but those of a tree, at times one more or less, and opens. */
    void cutToTree() {
      if (model.fault != 0 || model.squares.size() > 60 || random.nextInt(5) == 0) call("box", 1 + random.nextInt(3), 1 + random.nextInt(2), 1 + random.nextInt(2));
      int n = model.squares.size();
      if (over() || n == 0 || n > 60) return;
      boolean deep = random.nextBoolean();
      List<Integer> tree = new ArrayList<>(List.of(random.nextInt(n)));
      Set<Integer> inTree = new HashSet<>(tree);
      Set<P> left = new HashSet<>();
      int misses = 0;
      while (inTree.size() < n && misses < 5000) {
        int from = deep && misses % 8 != 7 ? tree.get(tree.size() - 1) : tree.get(random.nextInt(tree.size()));
        int side = random.nextInt(4);
        int to = model.other(from, side)[0];
        if (inTree.add(to)) {
          tree.add(to);
          left.add(model.squares.get(from).edge(side));
        } else misses++;
      }
      int slip = random.nextInt(8);
      for (int i = 0; i < n; i++) for (int k = 0; k < 4; k++) {
        boolean cut = !left.contains(model.squares.get(i).edge(k));
        if (slip == 0 && random.nextInt(4 * n) == 0) cut = !cut;
        if (model.isCut(i, k) != cut) call("cut", i, k, cut ? 1 : 0);
      }
      call("cuts");
      int creases = call("open");
      for (String name : new String[] {"fold", "closed", "wraps", "same", "where", "form", "told", "way"}) ask(name);
      if (creases > 0 && random.nextInt(2) == 0) {
        call("shelve", random.nextInt(6));
        call("turn", random.nextInt(2));
        call("turn", random.nextInt(2));
        askSome(4);
      }
      if (creases > 0 && random.nextInt(2) == 0) joinMore();
    }

    /** Creases where two spots of a sheet lie side by side without one make rings. */
    void joinMore() {
      for (P p : model.sheet.list()) for (int d = 0; d < 2; d++) {
        boolean beside = model.sheet.spots.contains(p.plus(FLAT_DIRECTIONS[d]));
        if (!beside || model.sheet.creases.containsKey(Sheet.between(p, d)) || random.nextInt(3) > 0) continue;
        call("crease", p.x(), p.y(), d, QUARTERS[random.nextInt(3)]);
        call("wraps");
        call("fold");
        if (random.nextBoolean()) call("undo");
      }
    }

    P anySpot() {
      List<P> spots = model.sheet.list();
      return spots.isEmpty() ? new P(0, 0, 0) : spots.get(random.nextInt(spots.size()));
    }

    void drawSheet() {
      int many = 1 + random.nextInt(random.nextInt(6) == 0 ? 60 : 10);
      boolean level = random.nextInt(3) == 0;
      for (int i = 0; i < many && !over(); i++) {
        P p = anySpot();
        int d = random.nextInt(4);
        P q = p.plus(FLAT_DIRECTIONS[d]);
        call("spot", q.x(), q.y(), 1);
        int quarter = level ? 0 : QUARTERS[random.nextInt(QUARTERS.length)];
        call("crease", p.x(), p.y(), d, random.nextInt(3) == 0 ? 0 : quarter);
      }
    }

    void changeSheet() {
      for (int i = 0; i < 4; i++) {
        P p = anySpot();
        switch (random.nextInt(6)) {
          case 0: call("spot", p.x(), p.y(), near(2)); break;
          case 1: call("spot", near(40) - 5, near(40) - 5, near(2)); break;
          case 2: call("turn", near(2)); break;
          case 3: call("crease", random.nextInt(9) == 0 ? near(31) : p.x(), random.nextInt(9) == 0 ? near(31) : p.y(), near(4), 5); break;
          default: call("crease", p.x(), p.y(), near(4), QUARTERS[random.nextInt(QUARTERS.length)]); break;
        }
      }
    }

    void takeBack() {
      int many = 1 + random.nextInt(10);
      for (int i = 0; i < many; i++) {
        call("undo");
        if (random.nextInt(3) == 0) askSome(1);
      }
      call("cuts");
      call("count", 4);
    }
  }
}
