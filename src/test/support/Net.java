import java.util.ArrayDeque;
import java.util.ArrayList;
import java.util.Deque;
import java.util.HashMap;
import java.util.HashSet;
import java.util.List;
import java.util.Map;
import java.util.Set;

/** A plan by which a skin is laid flat, with places and TURNS as Terms 2 gives them. */
final class Net {
  private static final int[] DX = {1, 0, -1, 0}, DY = {0, 1, 0, -1};

  final int squares;
  private final int[] layers;
  private final int[][] leads, backs;
  private final Map<Integer, Integer> turns = new HashMap<>();
  private final Map<Integer, List<Integer>> places = new HashMap<>();
  // Those on edges that are not cut, 4 * square + side.
  private final Set<Integer> sidesLeft = new HashSet<>();

  Net(int... layers) {
    this.layers = layers;
    Run scout = body();
    squares = scout.call("skin");
    leads = new int[squares][4];
    backs = new int[squares][4];
    for (int i = 0; i < squares; i++) for (int k = 0; k < 4; k++) {
      leads[i][k] = scout.call("across", i, k, 0);
      backs[i][k] = scout.call("across", i, k, 1);
    }
    turns.put(0, 0);
    places.put(0, List.of(0, 0));
  }

  Run body() {
    Run x = new Run();
    for (int z = 0; z < layers.length; z++) x.call("layer", z, layers[z]);
    return x;
  }

  int turn(int square) { return turns.get(square); }
  List<Integer> place(int square) { return places.get(square); }
  /** The farthest that a square lies along x (axis 0) or y (1), up (sign 1) or down (-1). */
  int farthest(int axis, int sign) {
    int most = 0;
    for (List<Integer> place : places.values()) most = Math.max(most, sign * place.get(axis));
    return most;
  }

  private int sideLooking(int square, int direction) { return direction - turns.get(square) & 3; }
  private int beside(int square, int direction) { return leads[square][sideLooking(square, direction)]; }
  private List<Integer> placeBeside(int square, int direction) {
    return List.of(places.get(square).get(0) + DX[direction], places.get(square).get(1) + DY[direction]);
  }

  private int step(int square, int direction) {
    int side = sideLooking(square, direction);
    int other = leads[square][side], back = backs[square][side];
    turns.put(other, direction + 2 - back & 3);
    places.put(other, placeBeside(square, direction));
    sidesLeft.add(4 * square + side);
    sidesLeft.add(4 * other + back);
    return other;
  }

  /** Goes as far as it may and then back to the latest turning; whether all came to places of their own. */
  boolean layAll() { return layAll(List.of(0, 1, 2, 3)); }

  private boolean layAll(List<Integer> directions) {
    Deque<int[]> todo = new ArrayDeque<>();
    for (int d : directions) todo.push(new int[] {0, d});
    while (!todo.isEmpty()) {
      int[] next = todo.pop();
      if (turns.containsKey(beside(next[0], next[1])) || !isFree(placeBeside(next[0], next[1]))) continue;
      int other = step(next[0], next[1]);
      for (int d : directions) todo.push(new int[] {other, d});
    }
    return turns.size() == squares;
  }

  /** A plan that lays all, the directions being gone through in the first order by which it can be done. */
  static Net whole(int... layers) {
    for (int i = 0; i < 256; i++) {
      List<Integer> order = List.of(i & 3, i >> 2 & 3, i >> 4 & 3, i >> 6 & 3);
      if (new HashSet<>(order).size() < 4) continue;
      Net net = new Net(layers);
      if (net.layAll(order)) return net;
    }
    throw new IllegalStateException("no plan lays all");
  }

  private boolean isFree(List<Integer> place) {
    return Math.abs(place.get(0)) <= 30 && Math.abs(place.get(1)) <= 30 && !places.containsValue(place);
  }

  /** One belt along the direction, from its end the other belt, far steps onward and the rest back. */
  void layBelts(int direction, int far) {
    int lateral = direction % 2 == 0 ? 1 : 0;
    List<Integer> first = new ArrayList<>(List.of(0)), second = new ArrayList<>();
    for (int i = 0; i < 19; i++) first.add(step(first.get(i), direction));
    int start = step(first.get(19), lateral);
    second.add(start);
    for (int i = 0, at = start; i < far; i++) second.add(at = step(at, direction));
    for (int i = 0, at = start; i < 19 - far; i++) second.add(at = step(at, direction + 2 & 3));
    for (int square : first) if (!turns.containsKey(beside(square, lateral + 2))) step(square, lateral + 2);
    for (int square : second) if (!turns.containsKey(beside(square, lateral))) step(square, lateral);
  }

  /** The one side of a square that is left, or -1 if it is not one alone. */
  private int onlySideLeft(int square) {
    int many = 0, only = -1;
    for (int k = 0; k < 4; k++) if (sidesLeft.contains(4 * square + k)) {
      many++;
      only = k;
    }
    return many == 1 ? only : -1;
  }

  /** A square that hangs by one edge alone, and that side of it. */
  int[] lastOfARow() {
    for (int square = squares - 1; square > 0; square--) if (onlySideLeft(square) >= 0) return new int[] {square, onlySideLeft(square)};
    throw new IllegalStateException("no square hangs by one edge");
  }

  /** Hangs some square onto another neighbour, so that it comes to lie on this one. */
  boolean layAnotherOn(int taken) {
    for (int square = 1; square < squares; square++) {
      int only = square == taken ? -1 : onlySideLeft(square);
      for (int k = 0; only >= 0 && k < 4; k++) {
        int from = leads[square][k];
        int direction = backs[square][k] + turns.get(from) & 3;
        if (k == only || !placeBeside(from, direction).equals(places.get(taken))) continue;
        sidesLeft.remove(4 * square + only);
        sidesLeft.remove(4 * leads[square][only] + backs[square][only]);
        step(from, direction);
        return true;
      }
    }
    return false;
  }

  /** The body with all edges cut that the plan does not leave. */
  Run cut() {
    Run x = body();
    Set<Integer> done = new HashSet<>(sidesLeft);
    for (int i = 0; i < squares; i++) for (int k = 0; k < 4; k++) {
      if (!done.add(4 * i + k)) continue;
      done.add(4 * leads[i][k] + backs[i][k]);
      x.call("cut", i, k, 1);
    }
    return x;
  }
}
