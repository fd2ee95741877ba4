import java.util.ArrayList;
import java.util.Arrays;
import java.util.HashMap;
import java.util.HashSet;
import java.util.List;
import java.util.Map;
import java.util.Set;
import java.util.function.ToIntFunction;

/** The promises one by one, each on objects of its own, with answers worked out by hand. */
public final class PromiseTests extends Checks {
  public static void main(String[] args) {
    aNewObject();
    layer();
    lose();
    cube();
    copy();
    box();
    well();
    skin();
    square();
    across();
    cut();
    cuts();
    open();
    spot();
    crease();
    turn();
    clear();
    told();
    fold();
    where();
    closed();
    form();
    same();
    shelveAndAlike();
    wraps();
    way();
    undo();
    count();
    end("all promises hold");
  }

  /** What a refused call must leave as it is. */
  private static List<Integer> state(CubeCarton x) {
    List<Integer> all = new ArrayList<>();
    for (int what = 0; what < 5; what++) all.add(x.count(what));
    all.add(x.cuts());
    all.add(x.skin());
    all.add(x.well());
    return all;
  }

  private static void refused(int promise, CubeCarton x, String call, ToIntFunction<CubeCarton> how, int want) {
    List<Integer> before = state(x);
    due(promise, call, how.applyAsInt(x), want);
    due(promise, "the state behind " + call, state(x), before);
  }

  /** The cubes of a layer, read off the skin; for bodies of which each cube can be seen. */
  private static int bits(CubeCarton x, int z) {
    int bits = 0, squares = x.skin();
    for (int i = 0; i < squares; i++)
      if (x.square(i, 2) == z) bits |= 1 << 4 * x.square(i, 1) + x.square(i, 0);
    return bits;
  }

  private static List<Integer> spots(CubeCarton x) {
    List<Integer> all = new ArrayList<>();
    for (int i = 0; i < x.count(2); i++) all.addAll(List.of(x.told(i, 0), x.told(i, 1), x.told(i, 2)));
    return all;
  }

  private static List<Integer> formOf(CubeCarton x) {
    List<Integer> all = new ArrayList<>();
    for (int i = 0, number = x.form(0); i < 300 && number != NONE; number = x.form(++i)) all.add(number);
    return all;
  }

  private static List<Integer> pose(CubeCarton x, int spot) {
    List<Integer> all = new ArrayList<>();
    for (int what = 0; what < 5; what++) all.add(x.where(spot, what));
    return all;
  }

  /** A sheet of rows: x, y, direction, quarter; both spots come, and the crease between them. */
  private static CubeCarton sheet(int[]... creases) {
    CubeCarton x = new CubeCarton();
    draw(x, creases);
    return x;
  }

  private static void draw(CubeCarton x, int[]... creases) {
    int[] dx = {1, 0, -1, 0}, dy = {0, 1, 0, -1};
    for (int[] c : creases) {
      x.spot(c[0], c[1], 1);
      x.spot(c[0] + dx[c[2]], c[1] + dy[c[2]], 1);
      x.crease(c[0], c[1], c[2], c[3]);
    }
  }

  private static void aNewObject() {
    CubeCarton x = new CubeCarton();
    for (int what = 0; what < 5; what++) due(1, "count(" + what + ")", x.count(what), 0);
    for (int z = 0; z < 4; z++) due(1, "lose(" + z + ")", x.lose(z), NOTHING);
    for (int k = 0; k < 6; k++) due(1, "alike(" + k + ")", x.alike(k), 1);
    due(1, "well()", x.well(), 1);
    due(1, "skin()", x.skin(), 0);
    due(1, "cuts()", x.cuts(), 0);
    due(1, "fold()", x.fold(), 1);
    due(1, "closed()", x.closed(), 0);
    due(1, "form(0)", x.form(0), NONE);
    due(1, "same()", x.same(), 8);
    due(1, "told(0, 0)", x.told(0, 0), BAD);
    due(1, "undo()", x.undo(), NO);
    due(1, "clear()", x.clear(), 0);
    due(1, "NONE", CubeCarton.NONE, NONE);
    due(1, "BAD", CubeCarton.BAD, BAD);
    due(1, "NO", CubeCarton.NO, NO);
    due(1, "FULL", CubeCarton.FULL, FULL);
    due(1, "NOTHING", CubeCarton.NOTHING, NOTHING);
    due(1, "INDEX", CubeCarton.INDEX, INDEX);
    CubeCarton y = new CubeCarton();
    y.box(2, 2, 2);
    y.spot(0, 0, 1);
    y.shelve(2);
    due(1, "count(0) of another object", x.count(0), 0);
    due(1, "alike(2) of another object", x.alike(2), 1);
  }

  private static void layer() {
    CubeCarton x = new CubeCarton();
    due(2, "layer(0, 65535)", x.layer(0, 65535), 16);
    due(2, "layer(0, 5)", x.layer(0, 5), 2);
    due(2, "bits of layer 0", bits(x, 0), 5);
    due(2, "layer(3, 65536 + 9)", x.layer(3, 65536 + 9), 2);
    due(2, "bits of layer 3", bits(x, 3), 9);
    due(2, "layer(1, -1)", x.layer(1, -1), 16);
    due(2, "layer(1, LEAST)", x.layer(1, LEAST), 0);
    due(2, "count(1), an empty layer is there", x.count(1), 3);
    due(2, "layer(2, 64)", x.layer(2, 64), 1);
    due(2, "bits of layer 2", bits(x, 2), 64);
    due(2, "count(0)", x.count(0), 5);
    refused(2, x, "layer(4, 1)", c -> c.layer(4, 1), BAD);
    refused(2, x, "layer(-1, 1)", c -> c.layer(-1, 1), BAD);
    refused(2, x, "layer(GREATEST, 1)", c -> c.layer(GREATEST, 1), BAD);
    CubeCarton y = new CubeCarton();
    y.box(1, 1, 1);
    y.cut(0, 0, 1);
    y.layer(0, 1);
    due(2, "cuts() behind the same layer", y.cuts(), 0);
  }

  private static void lose() {
    CubeCarton x = new CubeCarton();
    x.layer(1, 7);
    x.layer(2, 0);
    x.layer(3, 3);
    due(3, "lose(1)", x.lose(1), 3);
    due(3, "lose(2), empty", x.lose(2), 0);
    due(3, "count(1)", x.count(1), 1);
    due(3, "count(0)", x.count(0), 2);
    refused(3, x, "lose(1)", c -> c.lose(1), NOTHING);
    refused(3, x, "lose(0)", c -> c.lose(0), NOTHING);
    refused(3, x, "lose(4)", c -> c.lose(4), BAD);
    refused(3, x, "lose(-1)", c -> c.lose(-1), BAD);
    CubeCarton y = new CubeCarton();
    y.box(1, 1, 1);
    y.layer(3, 0);
    y.cut(0, 0, 1);
    due(3, "lose(3)", y.lose(3), 0);
    due(3, "cuts()", y.cuts(), 0);
    due(3, "well()", y.well(), 0);
  }

  private static void cube() {
    CubeCarton x = new CubeCarton();
    x.layer(2, 0);
    due(4, "cube(2, 5, 1)", x.cube(2, 5, 1), 0);
    due(4, "cube(2, 5, 1)", x.cube(2, 5, 1), 1);
    due(4, "cube(2, 0, 1)", x.cube(2, 0, 1), 0);
    due(4, "cube(2, 15, 1)", x.cube(2, 15, 1), 0);
    due(4, "bits of layer 2", bits(x, 2), 0x8021);
    due(4, "cube(2, 5, 0)", x.cube(2, 5, 0), 1);
    due(4, "cube(2, 5, 0)", x.cube(2, 5, 0), 0);
    due(4, "bits of layer 2", bits(x, 2), 0x8001);
    refused(4, x, "cube(4, 0, 1)", c -> c.cube(4, 0, 1), BAD);
    refused(4, x, "cube(-1, 0, 1)", c -> c.cube(-1, 0, 1), BAD);
    refused(4, x, "cube(2, 0, 2)", c -> c.cube(2, 0, 2), BAD);
    refused(4, x, "cube(2, 0, -1)", c -> c.cube(2, 0, -1), BAD);
    refused(4, x, "cube(0, 16, 2)", c -> c.cube(0, 16, 2), BAD);
    refused(4, x, "cube(0, 16, 1)", c -> c.cube(0, 16, 1), NOTHING);
    refused(4, x, "cube(2, 16, 1)", c -> c.cube(2, 16, 1), INDEX);
    refused(4, x, "cube(2, -1, 0)", c -> c.cube(2, -1, 0), INDEX);
    refused(4, x, "cube(2, GREATEST, 1)", c -> c.cube(2, GREATEST, 1), INDEX);
    refused(4, x, "cube(2, LEAST, 1)", c -> c.cube(2, LEAST, 1), INDEX);
    CubeCarton y = new CubeCarton();
    y.box(1, 1, 1);
    y.cut(0, 0, 1);
    due(4, "cube(0, 0, 1)", y.cube(0, 0, 1), 1);
    due(4, "cuts()", y.cuts(), 0);
  }

  private static void copy() {
    CubeCarton x = new CubeCarton();
    x.layer(0, 0x2D);
    due(5, "copy(0, 0, 0, 1, 6)", x.copy(0, 0, 0, 1, 6), 6);
    due(5, "bits of layer 0, moved up", bits(x, 0), 0x5B);
    x.layer(0, 0x2D);
    due(5, "copy(0, 2, 0, 0, 6)", x.copy(0, 2, 0, 0, 6), 6);
    due(5, "bits of layer 0, moved down", bits(x, 0), 0x0B);
    x.layer(0, 0x1234);
    x.layer(3, 0xFFFF);
    due(5, "copy(0, 0, 3, 0, 16)", x.copy(0, 0, 3, 0, 16), 16);
    due(5, "bits of layer 3", bits(x, 3), 0x1234);
    due(5, "bits of layer 0 stay", bits(x, 0), 0x1234);
    CubeCarton y = new CubeCarton();
    y.layer(0, 0x00F0);
    y.layer(2, 0x8001);
    due(5, "copy(0, 6, 2, 13, 3)", y.copy(0, 6, 2, 13, 3), 3);
    due(5, "bits of layer 2: ones come and a one goes", bits(y, 2), 0x6001);
    due(5, "copy(0, 16, 2, 16, 0)", y.copy(0, 16, 2, 16, 0), 0);
    due(5, "bits of layer 2 stay", bits(y, 2), 0x6001);
    CubeCarton r = new CubeCarton();
    r.layer(0, 0x00F0);
    r.layer(2, 0x0F0F);
    due(5, "copy(0, 5, 2, 9, 4)", r.copy(0, 5, 2, 9, 4), 4);
    due(5, "bits of layer 2, four in the midst", bits(r, 2), 0x0F0F);
    due(5, "copy(0, 2, 2, 9, 4)", r.copy(0, 2, 2, 9, 4), 4);
    due(5, "bits of layer 2, four in the midst", bits(r, 2), 0x190F);
    refused(5, r, "copy(-1, 0, 1, 0, 99)", c -> c.copy(-1, 0, 1, 0, 99), BAD);
    refused(5, r, "copy(1, 0, 4, 0, -1)", c -> c.copy(1, 0, 4, 0, -1), BAD);
    refused(5, r, "copy(0, 0, 1, 0, 17)", c -> c.copy(0, 0, 1, 0, 17), NOTHING);
    refused(5, r, "copy(1, 0, 0, 0, 17)", c -> c.copy(1, 0, 0, 0, 17), NOTHING);
    refused(5, r, "copy(0, 0, 2, 0, 17)", c -> c.copy(0, 0, 2, 0, 17), INDEX);
    refused(5, r, "copy(0, 0, 2, 0, -1)", c -> c.copy(0, 0, 2, 0, -1), INDEX);
    refused(5, r, "copy(0, -1, 2, 0, 1)", c -> c.copy(0, -1, 2, 0, 1), INDEX);
    refused(5, r, "copy(0, 0, 2, -1, 1)", c -> c.copy(0, 0, 2, -1, 1), INDEX);
    refused(5, r, "copy(0, 15, 2, 0, 2)", c -> c.copy(0, 15, 2, 0, 2), INDEX);
    refused(5, r, "copy(0, 0, 2, 15, 2)", c -> c.copy(0, 0, 2, 15, 2), INDEX);
    refused(5, r, "copy(0, 1, 2, 0, GREATEST)", c -> c.copy(0, 1, 2, 0, GREATEST), INDEX);
    refused(5, r, "copy(0, GREATEST, 2, 0, 1)", c -> c.copy(0, GREATEST, 2, 0, 1), INDEX);
    refused(5, r, "copy(0, 0, 2, GREATEST, GREATEST)", c -> c.copy(0, 0, 2, GREATEST, GREATEST), INDEX);
    refused(5, r, "copy(0, 0, 2, 0, LEAST)", c -> c.copy(0, 0, 2, 0, LEAST), INDEX);
    CubeCarton w = new CubeCarton();
    w.box(1, 1, 1);
    w.cut(0, 0, 1);
    due(5, "copy(0, 0, 0, 0, 0)", w.copy(0, 0, 0, 0, 0), 0);
    due(5, "cuts()", w.cuts(), 0);
    due(5, "count(4), a copy of none is a change", w.count(4), 3);
  }

  private static void box() {
    CubeCarton x = new CubeCarton();
    due(6, "box(4, 4, 4)", x.box(4, 4, 4), 64);
    due(6, "count(0)", x.count(0), 64);
    due(6, "count(1)", x.count(1), 4);
    due(6, "box(2, 3, 1)", x.box(2, 3, 1), 6);
    due(6, "bits of layer 0", bits(x, 0), 0x333);
    due(6, "count(0)", x.count(0), 6);
    due(6, "count(1)", x.count(1), 1);
    for (int z = 1; z < 4; z++) due(6, "lose(" + z + ")", x.lose(z), NOTHING);
    due(6, "box(4, 1, 2)", x.box(4, 1, 2), 8);
    due(6, "bits of layer 0", bits(x, 0), 15);
    due(6, "bits of layer 1", bits(x, 1), 15);
    refused(6, x, "box(0, 1, 1)", c -> c.box(0, 1, 1), BAD);
    refused(6, x, "box(1, 0, 1)", c -> c.box(1, 0, 1), BAD);
    refused(6, x, "box(1, 1, 0)", c -> c.box(1, 1, 0), BAD);
    refused(6, x, "box(5, 1, 1)", c -> c.box(5, 1, 1), BAD);
    refused(6, x, "box(1, 5, 1)", c -> c.box(1, 5, 1), BAD);
    refused(6, x, "box(1, 1, 5)", c -> c.box(1, 1, 5), BAD);
    refused(6, x, "box(-1, -1, 1)", c -> c.box(-1, -1, 1), BAD);
    CubeCarton y = new CubeCarton();
    y.box(1, 1, 1);
    y.cut(0, 0, 1);
    y.box(1, 1, 1);
    due(6, "cuts()", y.cuts(), 0);
  }

  private static int wellOf(int... layers) {
    CubeCarton x = new CubeCarton();
    for (int z = 0; z < layers.length; z++) if (layers[z] >= 0) x.layer(z, layers[z]);
    return x.well();
  }

  private static void well() {
    due(7, "well() with empty layers", wellOf(0, -1, 0), 1);
    due(7, "well() of one cube", wellOf(-1, -1, -1, 0x8000), 0);
    due(7, "well() of all", wellOf(65535, 65535, 65535, 65535), 0);
    due(7, "well() of two apart", wellOf(5), 2);
    due(7, "well() of rows' ends, which are no neighbours", wellOf(0x0018), 2);
    due(7, "well() over a missing layer", wellOf(1, -1, 1), 2);
    due(7, "well() of two with an edge alone", wellOf(33), 2);
    due(7, "well() of two with a corner alone", wellOf(1, 32), 2);
    due(7, "well(): about the edge, but not among its four, along z", wellOf(0x21, 0x23), 3);
    due(7, "well(): the same along x", wellOf(0x03, 0x22 | 0x10), 3);
    due(7, "well(): the same along y", wellOf(0x11, 0x02 | 0x30), 3);
    due(7, "well(): a corner alone", wellOf(0, 0, 0x7510, 0x0030), 3);
    due(7, "well(): three about an edge", wellOf(0x23), 0);
    due(7, "well() of a ring", wellOf(0x757), 0);
    due(7, "well() of a hollow box", wellOf(0x777, 0x757, 0x777), 4);
    due(7, "well() of a hollow box of four", wellOf(0xFFFF, 0xF99F, 0xF99F, 0xFFFF), 4);
    due(7, "well() of the same with a door", wellOf(0xFFFF, 0xF99F, 0xF99F, 0xFFDF), 0);
    due(7, "well() of the same with a door at the side", wellOf(0xFFFF, 0xF98F & 0xF99F, 0xF99F, 0xFFFF), 0);
    due(7, "well(): edges come ahead of hollows", wellOf(0xFFFF, 0xFFFF & ~0x0420, 0xFFFF, 0xFFFF), 3);
    due(7, "well(): hanging comes ahead of edges", wellOf(0x8021, 0x0023), 2);
  }

  private static void skin() {
    CubeCarton x = new CubeCarton();
    x.box(1, 1, 1);
    due(8, "skin()", x.skin(), 6);
    x.layer(0, 33);
    due(8, "skin() of a body that is not well", x.skin(), 12);
    x.layer(0, 0xA5A5);
    x.layer(1, 0x5A5A);
    x.layer(2, 0xA5A5);
    x.layer(3, 0x5A5A);
    due(8, "skin() of every other place", x.skin(), 192);
    due(8, "square(191, 3)", x.square(191, 3), 5);
    x.box(3, 3, 3);
    x.cube(1, 5, 0);
    due(8, "skin() with a hollow", x.skin(), 60);
    x.box(4, 4, 4);
    due(8, "skin()", x.skin(), 96);
    x.layer(0, 0);
    due(8, "skin() over an empty layer", x.skin(), 80);
  }

  private static void square() {
    CubeCarton x = new CubeCarton();
    x.box(2, 1, 1);
    int[] directions = {1, 2, 3, 4, 5, 0, 2, 3, 4, 5};
    for (int i = 0; i < 10; i++) {
      due(9, "square(" + i + ", 0)", x.square(i, 0), i / 5);
      due(9, "square(" + i + ", 3)", x.square(i, 3), directions[i]);
    }
    CubeCarton y = new CubeCarton();
    y.layer(3, 1);
    y.layer(1, 0x8010);
    y.layer(0, 0x0008);
    int[][] cubes = {{3, 0, 0}, {0, 1, 1}, {3, 3, 1}, {0, 0, 3}};
    for (int i = 0; i < 24; i++) {
      for (int what = 0; what < 3; what++) due(9, "square(" + i + ", " + what + ")", y.square(i, what), cubes[i / 6][what]);
      due(9, "square(" + i + ", 3)", y.square(i, 3), i % 6);
    }
    refused(9, y, "square(24, 0)", c -> c.square(24, 0), BAD);
    refused(9, y, "square(-1, 0)", c -> c.square(-1, 0), BAD);
    refused(9, y, "square(0, 4)", c -> c.square(0, 4), BAD);
    refused(9, y, "square(0, -1)", c -> c.square(0, -1), BAD);
    due(9, "square(0, 0) without cubes", new CubeCarton().square(0, 0), BAD);
  }

  private static void across() {
    CubeCarton x = new CubeCarton();
    x.box(1, 1, 1);
    int[][] leads = {
      {2, 1, 4, 0, 3, 3, 5, 0}, {2, 3, 5, 2, 3, 1, 4, 2}, {4, 1, 0, 0, 5, 3, 1, 0},
      {4, 3, 1, 2, 5, 1, 0, 2}, {0, 1, 2, 0, 1, 3, 3, 0}, {0, 3, 3, 2, 1, 1, 2, 2},
    };
    for (int i = 0; i < 6; i++) for (int k = 0; k < 4; k++) {
      due(10, "across(" + i + ", " + k + ", 0)", x.across(i, k, 0), leads[i][2 * k]);
      due(10, "across(" + i + ", " + k + ", 1)", x.across(i, k, 1), leads[i][2 * k + 1]);
      due(10, "across(" + i + ", " + k + ", 2)", x.across(i, k, 2), 1);
      due(10, "across(" + i + ", " + k + ", 3)", x.across(i, k, 3), 0);
    }
    x.cut(0, 0, 1);
    due(10, "across(0, 0, 3)", x.across(0, 0, 3), 1);
    due(10, "across(2, 1, 3)", x.across(2, 1, 3), 1);
    due(10, "across(0, 1, 3)", x.across(0, 1, 3), 0);
    // Squares 0 .. 3 of (0, 0, 0), 4 .. 8 of (1, 0, 0), 9 .. 13 of (0, 0, 1).
    CubeCarton y = new CubeCarton();
    y.layer(0, 3);
    y.layer(1, 1);
    int[][] rows = {
      {7, 2, 9, 3, 9}, {9, 3, 7, 2, 9}, {7, 0, 4, 1, 1}, {0, 0, 1, 3, 1},
      {1, 1, 5, 3, 0}, {5, 3, 1, 1, 0}, {0, 3, 10, 1, 0}, {10, 1, 0, 3, 0}, {9, 1, 13, 0, 1},
    };
    for (int[] r : rows) for (int what = 0; what < 3; what++)
      due(10, "across(" + r[0] + ", " + r[1] + ", " + what + ")", y.across(r[0], r[1], what), r[2 + what]);
    for (int i = 0; i < 14; i++) for (int k = 0; k < 4; k++) {
      int other = y.across(i, k, 0), side = y.across(i, k, 1);
      due(10, "there and back from " + i + ", " + k, 4 * y.across(other, side, 0) + y.across(other, side, 1), 4 * i + k);
    }
    refused(10, y, "across(14, 0, 0)", c -> c.across(14, 0, 0), BAD);
    refused(10, y, "across(-1, 0, 0)", c -> c.across(-1, 0, 0), BAD);
    refused(10, y, "across(0, 4, 0)", c -> c.across(0, 4, 0), BAD);
    refused(10, y, "across(0, -1, 0)", c -> c.across(0, -1, 0), BAD);
    refused(10, y, "across(0, 0, 4)", c -> c.across(0, 0, 4), BAD);
    refused(10, y, "across(0, 0, -1)", c -> c.across(0, 0, -1), BAD);
    y.layer(0, 33);
    refused(10, y, "across(0, 0, 0), not well", c -> c.across(0, 0, 0), NO);
    refused(10, y, "across(0, 0, 4), not well", c -> c.across(0, 0, 4), BAD);
    refused(10, y, "across(99, 0, 0), not well", c -> c.across(99, 0, 0), BAD);
    due(10, "across(0, 0, 0) without cubes", new CubeCarton().across(0, 0, 0), BAD);
  }

  private static void cut() {
    CubeCarton x = new CubeCarton();
    x.box(1, 1, 1);
    due(11, "cut(0, 0, 1)", x.cut(0, 0, 1), 0);
    due(11, "cut(0, 0, 1)", x.cut(0, 0, 1), 1);
    due(11, "cut(2, 1, 1), the same edge", x.cut(2, 1, 1), 1);
    int marks = 0;
    for (int i = 0; i < 6; i++) for (int k = 0; k < 4; k++) marks += x.across(i, k, 3);
    due(11, "sides on edges that are cut", marks, 2);
    due(11, "cut(2, 1, 0)", x.cut(2, 1, 0), 1);
    due(11, "cut(0, 0, 0)", x.cut(0, 0, 0), 0);
    due(11, "across(0, 0, 3)", x.across(0, 0, 3), 0);
    due(11, "cuts()", x.cuts(), 0);
    due(11, "count(4)", x.count(4), 6);
    refused(11, x, "cut(6, 0, 1)", c -> c.cut(6, 0, 1), BAD);
    refused(11, x, "cut(-1, 0, 1)", c -> c.cut(-1, 0, 1), BAD);
    refused(11, x, "cut(0, 4, 1)", c -> c.cut(0, 4, 1), BAD);
    refused(11, x, "cut(0, -1, 1)", c -> c.cut(0, -1, 1), BAD);
    refused(11, x, "cut(0, 0, 2)", c -> c.cut(0, 0, 2), BAD);
    refused(11, x, "cut(0, 0, -1)", c -> c.cut(0, 0, -1), BAD);
    x.layer(0, 33);
    refused(11, x, "cut(0, 0, 1), not well", c -> c.cut(0, 0, 1), NO);
    refused(11, x, "cut(0, 0, 2), not well", c -> c.cut(0, 0, 2), BAD);
    refused(11, x, "cut(12, 0, 1), not well", c -> c.cut(12, 0, 1), BAD);
  }

  private static void cuts() {
    CubeCarton x = new CubeCarton();
    x.box(1, 1, 1);
    for (int i = 0; i < 6; i++) for (int k = 0; k < 4; k++) x.cut(i, k, 1);
    due(12, "cuts()", x.cuts(), 12);
    x.cut(5, 3, 0);
    due(12, "cuts()", x.cuts(), 11);
    x.spot(0, 0, 1);
    x.clear();
    due(12, "cuts(), the sheet does not touch them", x.cuts(), 11);
    x.layer(2, 1);
    due(12, "cuts()", x.cuts(), 0);
    due(12, "undo()", x.undo(), 7);
    due(12, "cuts()", x.cuts(), 11);
    CubeCarton y = new CubeCarton();
    y.box(4, 4, 4);
    for (int i = 0; i < 96; i++) for (int k = 0; k < 4; k++) y.cut(i, k, 1);
    due(12, "cuts()", y.cuts(), 192);
  }

  private static void open() {
    CubeCarton x = new CubeCarton();
    refused(13, x, "open() without cubes", CubeCarton::open, NO);
    x.box(1, 1, 1);
    refused(13, x, "open() uncut", CubeCarton::open, -22);
    int[][] edges = {{0, 2}, {1, 1}, {1, 3}, {2, 0}, {2, 2}, {3, 0}, {3, 2}};
    for (int[] e : edges) x.cut(e[0], e[1], 1);
    x.spot(7, 7, 1);
    due(13, "open()", x.open(), 5);
    due(13, "spots", spots(x), List.of(0, -1, 1, 0, 0, 3, 1, 0, 2, 2, 0, 2, 3, 0, 1, 0, 1, 1));
    due(13, "cuts() stay", x.cuts(), 7);
    int[][] creases = {{0, 0, 0}, {1, 0, 0}, {2, 0, 0}, {0, 0, 1}, {0, 0, 3}};
    for (int[] c : creases) due(13, "crease" + Arrays.toString(c), x.crease(c[0], c[1], c[2], 1), 1);
    due(13, "fold()", x.fold(), 0);
    due(13, "closed()", x.closed(), 1);
    due(13, "wraps()", x.wraps(), 48);
    x.cut(0, 0, 1);
    refused(13, x, "open() in two", CubeCarton::open, -21);
    x.cut(0, 0, 0);
    x.cut(0, 2, 0);
    refused(13, x, "open() with a ring", CubeCarton::open, -22);
    // A ring elsewhere, and square 4 apart: the first reason counts.
    x.cut(0, 1, 1);
    refused(13, x, "open() in two and with a ring", CubeCarton::open, -21);
    openBends();
    openFullOrOneOnAnother();
  }

  /** All three bends come onto the sheet. */
  private static void openBends() {
    CubeCarton x = new CubeCarton();
    x.layer(0, 3);
    x.layer(1, 1);
    // The strip about y: 9, 7, 4, 8, 3, 0, 10, 13; flaps beside; square 0 is the strip's sixth.
    Set<Integer> left = new HashSet<>();
    int[][] tree = {{9, 3}, {7, 0}, {4, 3}, {8, 2}, {3, 2}, {0, 3}, {10, 3}};
    int[][] flaps = {{0, 0}, {0, 2}, {10, 0}, {10, 2}, {4, 0}, {4, 2}};
    for (int[][] rows : new int[][][] {tree, flaps}) for (int[] r : rows) {
      left.add(4 * r[0] + r[1]);
      left.add(4 * x.across(r[0], r[1], 0) + x.across(r[0], r[1], 1));
    }
    for (int i = 0; i < 14; i++) for (int k = 0; k < 4; k++)
      if (!left.contains(4 * i + k) && x.across(i, k, 3) == 0) x.cut(i, k, 1);
    due(13, "cuts()", x.cuts(), 15);
    due(13, "open() of three cubes", x.open(), 13);
    due(13, "count(2)", x.count(2), 14);
    Map<Integer, Integer> quarters = new HashMap<>();
    List<Integer> all = spots(x);
    for (int i = 0; i < 14; i++) for (int d = 0; d < 2; d++) {
      int was = x.crease(all.get(3 * i), all.get(3 * i + 1), d, 5);
      quarters.merge(was, 1, Integer::sum);
      if (was >= 0) x.undo();
    }
    due(13, "creases that are hollow", quarters.getOrDefault(9, 0), 1);
    due(13, "creases that are flat", quarters.getOrDefault(0, 0), 2);
    due(13, "creases that are sharp", quarters.getOrDefault(1, 0), 10);
    due(13, "closed()", x.closed(), 1);
  }

  private static void openFullOrOneOnAnother() {
    CubeCarton x = new CubeCarton();
    x.box(4, 3, 2);
    x.layer(2, 0x0801);
    due(13, "skin()", x.skin(), 60);
    refused(13, x, "open() of 60", CubeCarton::open, -22);
    x.cube(2, 1, 1);
    due(13, "skin()", x.skin(), 62);
    refused(13, x, "open() of 62", CubeCarton::open, FULL);
    x.cube(2, 5, 0);
    x.cube(2, 6, 1);
    due(13, "well()", x.well(), 3);
    refused(13, x, "open() of more than 60, not well", CubeCarton::open, NO);
    CubeCarton y = new CubeCarton();
    y.box(3, 2, 1);
    int[][] edges = {
      {0, 1}, {0, 2}, {1, 3}, {2, 0}, {2, 1}, {3, 3}, {4, 0}, {4, 2}, {5, 1}, {6, 3}, {7, 1}, {7, 3},
      {8, 2}, {9, 1}, {10, 3}, {11, 1}, {12, 0}, {12, 2}, {15, 0}, {15, 1}, {17, 0}, {18, 0}, {18, 3},
    };
    for (int[] e : edges) y.cut(e[0], e[1], 1);
    refused(13, y, "open(), two on one", CubeCarton::open, -23);
    y.cut(0, 1, 0);
    refused(13, y, "open(), two on one and a ring", CubeCarton::open, -22);
  }

  private static void spot() {
    CubeCarton x = new CubeCarton();
    due(14, "spot(30, 30, 1)", x.spot(30, 30, 1), 0);
    due(14, "spot(-30, -30, 1)", x.spot(-30, -30, 1), 0);
    due(14, "spot(30, -30, 1)", x.spot(30, -30, 1), 0);
    due(14, "spot(-30, 30, 1)", x.spot(-30, 30, 1), 0);
    due(14, "spot(30, 30, 1)", x.spot(30, 30, 1), 1);
    due(14, "spot(5, 5, 0)", x.spot(5, 5, 0), 0);
    due(14, "count(4), one that isn't there goes", x.count(4), 6);
    due(14, "spots", spots(x), List.of(-30, -30, 0, 30, -30, 0, -30, 30, 0, 30, 30, 0));
    due(14, "spot(30, -30, 0)", x.spot(30, -30, 0), 1);
    due(14, "spots", spots(x), List.of(-30, -30, 0, -30, 30, 0, 30, 30, 0));
    refused(14, x, "spot(31, 0, 1)", c -> c.spot(31, 0, 1), BAD);
    refused(14, x, "spot(-31, 0, 1)", c -> c.spot(-31, 0, 1), BAD);
    refused(14, x, "spot(0, 31, 0)", c -> c.spot(0, 31, 0), BAD);
    refused(14, x, "spot(0, -31, 1)", c -> c.spot(0, -31, 1), BAD);
    refused(14, x, "spot(LEAST, 0, 1)", c -> c.spot(LEAST, 0, 1), BAD);
    refused(14, x, "spot(0, 0, 2)", c -> c.spot(0, 0, 2), BAD);
    refused(14, x, "spot(0, 0, -1)", c -> c.spot(0, 0, -1), BAD);
    CubeCarton y = new CubeCarton();
    for (int i = 0; i < 60; i++) due(14, "spot number " + i, y.spot(i % 10, i / 10, 1), 0);
    refused(14, y, "spot(20, 20, 1) beside 60", c -> c.spot(20, 20, 1), FULL);
    refused(14, y, "spot(31, 20, 1) beside 60", c -> c.spot(31, 20, 1), BAD);
    due(14, "spot(9, 5, 1), one of the 60", y.spot(9, 5, 1), 1);
    due(14, "spot(0, 0, 1), the first of the 60", y.spot(0, 0, 1), 1);
    due(14, "spot(20, 20, 0) beside 60", y.spot(20, 20, 0), 0);
    due(14, "spot(0, 0, 0)", y.spot(0, 0, 0), 1);
    due(14, "spot(20, 20, 1) beside 59", y.spot(20, 20, 1), 0);
    due(14, "count(2)", y.count(2), 60);
    CubeCarton w = sheet(CROSS);
    due(14, "spot(1, 0, 1) leaves creases", w.spot(1, 0, 1), 1);
    due(14, "count(3)", w.count(3), 5);
    due(14, "spot(1, 0, 0)", w.spot(1, 0, 0), 1);
    due(14, "spots without the middle", spots(w), List.of(1, -1, 0, 0, 0, 0, 2, 0, 1, 3, 0, 1, 1, 1, 0));
    due(14, "spot(1, 0, 1)", w.spot(1, 0, 1), 0);
    due(14, "count(3), the creases are gone", w.count(3), 1);
    due(14, "crease(2, 0, 0, 5) of those further on", w.crease(2, 0, 0, 5), 1);
  }

  private static void crease() {
    CubeCarton x = new CubeCarton();
    x.spot(0, 0, 1);
    for (int[] p : new int[][] {{1, 0}, {0, 1}, {-1, 0}, {0, -1}}) x.spot(p[0], p[1], 1);
    int[] numbers = {0, 1, 9, 1};
    for (int d = 0; d < 4; d++) due(15, "crease(0, 0, " + d + ", ..)", x.crease(0, 0, d, numbers[d]), 5);
    due(15, "count(3)", x.count(3), 4);
    due(15, "crease(1, 0, 2, 1), from the other side", x.crease(1, 0, 2, 1), 0);
    due(15, "crease(0, 1, 3, 9)", x.crease(0, 1, 3, 9), 1);
    due(15, "crease(-1, 0, 0, 0)", x.crease(-1, 0, 0, 0), 9);
    due(15, "crease(0, -1, 1, 5)", x.crease(0, -1, 1, 5), 1);
    due(15, "crease(0, 0, 3, 5)", x.crease(0, 0, 3, 5), 5);
    due(15, "count(3)", x.count(3), 3);
    due(15, "crease(0, 0, 0, 5)", x.crease(0, 0, 0, 5), 1);
    due(15, "crease(0, 0, 1, 5)", x.crease(0, 0, 1, 5), 9);
    due(15, "crease(0, 0, 2, 5)", x.crease(0, 0, 2, 5), 0);
    due(15, "count(3)", x.count(3), 0);
    x.spot(30, 0, 1);
    refused(15, x, "crease(30, 0, 0, 1)", c -> c.crease(30, 0, 0, 1), NO);
    refused(15, x, "crease(0, 1, 0, 1), none there", c -> c.crease(0, 1, 0, 1), NO);
    refused(15, x, "crease(1, 1, 2, 1), none here", c -> c.crease(1, 1, 2, 1), NO);
    refused(15, x, "crease(1, 0, 1, 5), none there", c -> c.crease(1, 0, 1, 5), NO);
    refused(15, x, "crease(0, 0, 4, 1)", c -> c.crease(0, 0, 4, 1), BAD);
    refused(15, x, "crease(0, 0, -1, 1)", c -> c.crease(0, 0, -1, 1), BAD);
    for (int quarter : new int[] {-1, 2, 3, 4, 6, 8, 10, LEAST})
      refused(15, x, "crease(0, 0, 0, " + quarter + ")", c -> c.crease(0, 0, 0, quarter), BAD);
    refused(15, x, "crease(31, 0, 2, 1)", c -> c.crease(31, 0, 2, 1), BAD);
    refused(15, x, "crease(0, -31, 1, 1)", c -> c.crease(0, -31, 1, 1), BAD);
    refused(15, x, "crease(20, 20, 0, 2)", c -> c.crease(20, 20, 0, 2), BAD);
  }

  private static void turn() {
    int[][] hook = {{0, 0, 0, 1}, {1, 0, 1, 9}};
    CubeCarton x = sheet(hook);
    due(16, "turn(0)", x.turn(0), 0);
    due(16, "spots", spots(x), List.of(0, 0, 1, -1, 1, 1, 0, 1, 2));
    due(16, "crease(0, 0, 1, 1)", x.crease(0, 0, 1, 1), 1);
    due(16, "crease(0, 1, 2, 9)", x.crease(0, 1, 2, 9), 9);
    CubeCarton y = sheet(hook);
    due(16, "turn(1)", y.turn(1), 0);
    due(16, "spots", spots(y), List.of(-1, 0, 2, 0, 0, 1, -1, 1, 1));
    due(16, "crease(0, 0, 2, 1)", y.crease(0, 0, 2, 1), 1);
    due(16, "crease(-1, 0, 1, 9)", y.crease(-1, 0, 1, 9), 9);
    CubeCarton w = new CubeCarton();
    w.spot(30, -29, 1);
    w.turn(0);
    due(16, "spots at the rim", spots(w), List.of(29, 30, 0));
    w.turn(1);
    due(16, "spots at the rim", spots(w), List.of(-29, 30, 0));
    due(16, "count(4)", w.count(4), 3);
    refused(16, w, "turn(2)", c -> c.turn(2), BAD);
    refused(16, w, "turn(-1)", c -> c.turn(-1), BAD);
    due(16, "turn(0) without spots", new CubeCarton().turn(0), 0);
    CubeCarton full = new CubeCarton();
    for (int i = 0; i < 60; i++) full.spot(i % 10, i / 10, 1);
    full.turn(0);
    due(16, "count(2)", full.count(2), 60);
    due(16, "told(0, 0)", full.told(0, 0), -5);
    due(16, "told(59, 1)", full.told(59, 1), 9);
  }

  private static void clear() {
    CubeCarton x = sheet(CROSS);
    x.box(1, 1, 1);
    x.cut(0, 0, 1);
    due(17, "clear()", x.clear(), 6);
    due(17, "count(2)", x.count(2), 0);
    due(17, "count(3)", x.count(3), 0);
    due(17, "count(0)", x.count(0), 1);
    due(17, "cuts()", x.cuts(), 1);
    due(17, "clear()", x.clear(), 0);
    draw(x, new int[] {0, 0, 0, 5});
    due(17, "count(3), no crease comes back", x.count(3), 0);
    CubeCarton y = new CubeCarton();
    y.clear();
    due(17, "count(4), a clear of none is a change", y.count(4), 1);
  }

  private static void told() {
    CubeCarton x = sheet(CROSS);
    due(18, "spots", spots(x), List.of(1, -1, 1, 0, 0, 1, 1, 0, 4, 2, 0, 2, 3, 0, 1, 1, 1, 1));
    refused(18, x, "told(6, 0)", c -> c.told(6, 0), BAD);
    refused(18, x, "told(-1, 0)", c -> c.told(-1, 0), BAD);
    refused(18, x, "told(0, 3)", c -> c.told(0, 3), BAD);
    refused(18, x, "told(0, -1)", c -> c.told(0, -1), BAD);
    x.spot(-30, -20, 1);
    due(18, "told(0, 0)", x.told(0, 0), -30);
    due(18, "told(0, 1)", x.told(0, 1), -20);
    due(18, "told(0, 2)", x.told(0, 2), 0);
  }

  private static void fold() {
    due(19, "fold() without spots", new CubeCarton().fold(), 1);
    CubeCarton one = new CubeCarton();
    one.spot(-3, 7, 1);
    due(19, "fold() of one", one.fold(), 0);
    one.spot(-2, 7, 1);
    due(19, "fold() of two without a crease", one.fold(), 1);
    due(19, "fold() of a cross", sheet(CROSS).fold(), 0);
    due(19, "fold() of a ring that does not agree", sheet(RING).fold(), 2);
    due(19, "fold() of a roll of five", sheet(ROLL).fold(), 3);
    CubeCarton both = sheet(RING);
    draw(both, ROLL);
    due(19, "fold() of both", both.fold(), 2);
    both.spot(9, 9, 1);
    due(19, "fold() of both and one apart", both.fold(), 1);
    CubeCarton agree = sheet(RING);
    agree.crease(0, 0, 0, 1);
    due(19, "fold() of a ring that agrees", agree.fold(), 0);
    agree.crease(0, 0, 0, 9);
    due(19, "fold() of a ring with 1 and -1", agree.fold(), 2);
    // The ring hangs on a spot below, so that another of its creases is the one to close it.
    CubeCarton kite = sheet(new int[] {1, 0, 1, 0}, new int[] {1, 1, 1, 0}, new int[] {1, 1, 2, 0}, new int[] {1, 2, 2, 0}, new int[] {0, 1, 1, 1});
    due(19, "fold() of a kite", kite.fold(), 2);
    kite.crease(0, 1, 1, 0);
    due(19, "fold() of a level kite", kite.fold(), 0);
    // Three squares about a corner and a fourth that comes back on the first's place.
    CubeCarton corner = sheet(new int[] {0, 0, 0, 1}, new int[] {1, 0, 1, 1}, new int[] {1, 1, 2, 1});
    due(19, "fold() of a row about a corner", corner.fold(), 3);
  }

  private static void where() {
    CubeCarton one = new CubeCarton();
    one.spot(5, 5, 1);
    due(20, "spot 0", pose(one, 0), List.of(0, 0, 0, 4, 0));
    int[] quarters = {0, 1, 9};
    List<List<Integer>> right = List.of(List.of(2, 0, 0, 4, 0), List.of(1, 0, 999, 0, 5), List.of(1, 0, 1, 1, 4));
    List<List<Integer>> up = List.of(List.of(0, 2, 0, 4, 0), List.of(0, 1, 999, 2, 0), List.of(0, 1, 1, 3, 0));
    List<List<Integer>> left = List.of(List.of(998, 2, 0, 4, 0), List.of(999, 2, 999, 1, 4), List.of(999, 2, 1, 0, 5));
    List<List<Integer>> down = List.of(List.of(2, 2, 0, 4, 0), List.of(2, 3, 999, 3, 0), List.of(2, 3, 1, 2, 0));
    List<List<Integer>> further = List.of(List.of(2, 0, 0, 4, 0), List.of(2, 3, 997, 3, 0), List.of(2, 3, 3, 2, 0));
    for (int i = 0; i < 3; i++) {
      int q = quarters[i];
      due(20, "right by " + q, pose(sheet(new int[] {0, 0, 0, q}), 1), right.get(i));
      due(20, "up by " + q, pose(sheet(new int[] {0, 0, 1, q}), 1), up.get(i));
      due(20, "left by " + q, pose(sheet(new int[] {0, 0, 1, 0}, new int[] {0, 1, 2, q}), 1), left.get(i));
      int[][] hook = {{0, -1, 1, 0}, {0, 0, 1, 0}, {0, 1, 0, 0}, {1, 1, 3, q}, {1, 0, 3, 0}};
      CubeCarton x = sheet(hook);
      due(20, "down by " + q, pose(x, 3), down.get(i));
      // Spots (0, -1), (1, -1), (0, 0), (1, 0), (0, 1), (1, 1): what was UP shows in the next step.
      due(20, "down by " + q + " and on", pose(x, 1), further.get(i));
    }
    CubeCarton cross = sheet(CROSS);
    refused(20, cross, "where(6, 0)", c -> c.where(6, 0), BAD);
    refused(20, cross, "where(-1, 0)", c -> c.where(-1, 0), BAD);
    refused(20, cross, "where(0, 5)", c -> c.where(0, 5), BAD);
    refused(20, cross, "where(0, -1)", c -> c.where(0, -1), BAD);
    due(20, "where(5, 3), the lid lies against the ground", cross.where(5, 3), 5);
    CubeCarton roll = sheet(ROLL);
    refused(20, roll, "where(0, 0), not folded", c -> c.where(0, 0), NO);
    refused(20, roll, "where(5, 0), not folded", c -> c.where(5, 0), BAD);
    refused(20, roll, "where(0, 5), not folded", c -> c.where(0, 5), BAD);
    due(20, "where(0, 0) without spots", new CubeCarton().where(0, 0), BAD);
    CubeCarton row = new CubeCarton();
    for (int i = 0; i < 59; i++) draw(row, new int[] {i - 30, 0, 0, 0});
    due(20, "the last of 60 in a row", pose(row, 59), List.of(118, 0, 0, 4, 0));
    CubeCarton stairs = new CubeCarton();
    for (int i = 0; i < 59; i++) draw(stairs, new int[] {-i / 2 - i % 2, i / 2, i % 2 == 0 ? 2 : 1, 0});
    // The first step is to the left, so spot 0 is the second.
    due(20, "the last of 60 on stairs", pose(stairs, 58), List.of(1000 - 58, 58, 0, 4, 0));
  }

  private static void closed() {
    due(21, "closed() without spots", new CubeCarton().closed(), 0);
    due(21, "closed() of a cross", sheet(CROSS).closed(), 1);
    int[][] inward = {{0, 0, 0, 9}, {1, 0, 0, 9}, {2, 0, 0, 9}, {1, 0, 1, 9}, {1, 0, 3, 9}};
    due(21, "closed() of a cross folded to its face", sheet(inward).closed(), 1);
    CubeCarton lidless = sheet(CROSS);
    lidless.spot(3, 0, 0);
    due(21, "closed() without its lid", lidless.closed(), 0);
    CubeCarton flat = sheet(new int[] {0, 0, 0, 0});
    due(21, "closed() of two flat", flat.closed(), 0);
    due(21, "closed() of a roll of five", sheet(ROLL).closed(), 0);
    CubeCarton loose = sheet(CROSS);
    loose.crease(0, 0, 0, 5);
    due(21, "closed() of a cross in two", loose.closed(), 0);
    // Two closed cubes that have an edge in common: four sides lie there.
    int[][] first = {{0, 0, 0, 1}, {1, 0, 0, 1}, {2, 0, 0, 1}, {0, 0, 1, 1}, {0, 0, 3, 1}};
    int[][] second = {{3, 0, 0, 9}, {4, 0, 0, 1}, {5, 0, 0, 1}, {6, 0, 0, 1}, {4, 0, 1, 1}, {4, 0, 3, 1}};
    CubeCarton two = sheet(first);
    due(21, "closed() of one cube", two.closed(), 1);
    draw(two, second);
    due(21, "fold() of two cubes", two.fold(), 0);
    due(21, "closed() of two cubes", two.closed(), 0);
    // A box of two cubes, with level creases.
    CubeCarton box = sheet(new int[][] {
      {0, 0, 0, 1}, {1, 0, 0, 1}, {2, 0, 0, 1}, {0, 1, 0, 1}, {1, 1, 0, 1}, {2, 1, 0, 1},
      {0, 0, 1, 0}, {1, 0, 1, 0}, {2, 0, 1, 0}, {3, 0, 1, 0}, {0, 1, 1, 1}, {0, 0, 3, 1},
    });
    due(21, "closed() of a box of two", box.closed(), 1);
    box.crease(1, 0, 1, 5);
    box.crease(2, 1, 0, 5);
    due(21, "closed() of it with less creases", box.closed(), 1);
  }

  private static void form() {
    CubeCarton one = new CubeCarton();
    due(22, "form(0) without spots", one.form(0), NONE);
    one.spot(-7, 12, 1);
    due(22, "form of one", formOf(one), List.of(0, 0, 0, 0));
    due(22, "form(4)", one.form(4), NONE);
    due(22, "form(GREATEST)", one.form(GREATEST), NONE);
    refused(22, one, "form(-1)", c -> c.form(-1), BAD);
    refused(22, one, "form(LEAST)", c -> c.form(LEAST), BAD);
    one.spot(-7, 13, 1);
    due(22, "form of two without a crease", formOf(one), List.of(0, 0, 0, 0, 0, 1, 0, 0));
    int[][] quarters = {{9, 1}, {0, 2}, {1, 3}};
    for (int[] q : quarters) {
      CubeCarton two = sheet(new int[] {4, -9, 0, q[0]});
      due(22, "form of two with " + q[0], formOf(two), List.of(0, 0, 0, q[1], 1, 0, 0, 0));
    }
    List<Integer> want = List.of(0, 0, 0, 1, 1, 0, 3, 0, 1, 1, 0, 0);
    CubeCarton hook = sheet(new int[] {0, 0, 0, 1}, new int[] {0, 0, 1, 9});
    due(22, "form of a hook", formOf(hook), want);
    for (int how : new int[] {0, 0, 0, 0, 1, 0, 0, 0}) {
      hook.turn(how);
      due(22, "form of a hook, turned", formOf(hook), want);
    }
    CubeCarton other = sheet(new int[] {20, 20, 0, 9}, new int[] {20, 20, 1, 1});
    due(22, "form of a hook with its quarters changed over, which is it turned over", formOf(other), want);
    CubeCarton rim = new CubeCarton();
    rim.spot(-30, -30, 1);
    rim.spot(30, 29, 1);
    due(22, "form of two far apart", formOf(rim), List.of(0, 0, 0, 0, 59, 60, 0, 0));
    CubeCarton full = new CubeCarton();
    for (int i = 0; i < 60; i++) full.spot(i % 10, i / 10, 1);
    due(22, "form(239)", full.form(239), 0);
    due(22, "form(236)", full.form(236), 5);
    due(22, "form(237)", full.form(237), 9);
    due(22, "form(240)", full.form(240), NONE);
  }

  private static void same() {
    CubeCarton one = new CubeCarton();
    due(23, "same() without spots", one.same(), 8);
    one.spot(3, 4, 1);
    due(23, "same() of one", one.same(), 8);
    CubeCarton two = sheet(new int[] {0, 0, 0, 1});
    due(23, "same() of two", two.same(), 4);
    CubeCarton row = sheet(new int[] {0, 0, 0, 1}, new int[] {1, 0, 0, 9});
    due(23, "same() of three with 1 and -1", row.same(), 2);
    row.crease(1, 0, 0, 1);
    due(23, "same() of three with 1 and 1", row.same(), 4);
    CubeCarton hook = sheet(new int[] {0, 0, 0, 1}, new int[] {0, 0, 1, 9});
    due(23, "same() of a hook", hook.same(), 1);
    hook.crease(0, 0, 1, 1);
    due(23, "same() of an even hook", hook.same(), 2);
    due(23, "same() of a cross", sheet(CROSS).same(), 2);
    CubeCarton ring = sheet(RING);
    due(23, "same() of a ring", ring.same(), 2);
    ring.crease(0, 1, 0, 0);
    due(23, "same() of an even ring", ring.same(), 8);
    // An S has half turns alone.
    CubeCarton s = sheet(new int[] {0, 0, 0, 0}, new int[] {1, 0, 1, 0}, new int[] {1, 1, 0, 0});
    due(23, "same() of an S", s.same(), 2);
  }

  private static void shelveAndAlike() {
    CubeCarton x = sheet(new int[] {0, 0, 0, 0}, new int[] {1, 0, 1, 1}, new int[] {1, 1, 0, 0});
    int kept = x.count(4);
    due(24, "shelve(0)", x.shelve(0), 4);
    due(24, "shelve(5)", x.shelve(5), 4);
    due(24, "count(2), it stays in hand", x.count(2), 4);
    due(24, "count(4), no change", x.count(4), kept);
    refused(24, x, "shelve(6)", c -> c.shelve(6), BAD);
    refused(24, x, "shelve(-1)", c -> c.shelve(-1), BAD);
    refused(25, x, "alike(6)", c -> c.alike(6), BAD);
    refused(25, x, "alike(-1)", c -> c.alike(-1), BAD);
    due(25, "alike(0)", x.alike(0), 1);
    due(25, "alike(1), a shelf without spots", x.alike(1), 0);
    x.turn(1);
    due(25, "alike(0), turned over", x.alike(0), 1);
    x.turn(0);
    due(25, "alike(5), turned", x.alike(5), 1);
    x.clear();
    due(25, "alike(0), cleared", x.alike(0), 0);
    due(25, "alike(1), both without spots", x.alike(1), 1);
    // The same S, elsewhere, drawn the other way round.
    draw(x, new int[] {9, -5, 2, 0}, new int[] {8, -5, 1, 1}, new int[] {8, -4, 2, 0});
    due(25, "alike(0), moved", x.alike(0), 1);
    x.crease(8, -5, 1, 9);
    due(25, "alike(0), another quarter", x.alike(0), 0);
    x.crease(8, -5, 1, 5);
    due(25, "alike(0), a crease less", x.alike(0), 0);
    due(24, "shelve(0), what lay there is gone", x.shelve(0), 4);
    due(25, "alike(0)", x.alike(0), 1);
    due(25, "alike(5)", x.alike(5), 0);
    x.undo();
    due(24, "alike(0), undo leaves the shelf", x.alike(0), 0);
    x.crease(8, -5, 1, 1);
    due(25, "alike(5)", x.alike(5), 1);
    x.spot(9, -6, 1);
    due(25, "alike(5), a spot more", x.alike(5), 0);
    x.clear();
    due(24, "shelve(5)", x.shelve(5), 0);
    due(25, "alike(5), both without spots", x.alike(5), 1);
  }

  private static void wraps() {
    CubeCarton x = sheet(CROSS);
    refused(26, x, "wraps() without cubes", CubeCarton::wraps, NO);
    x.layer(0, 33);
    refused(26, x, "wraps(), not well", CubeCarton::wraps, NO);
    x.box(1, 1, 1);
    due(26, "wraps()", x.wraps(), 48);
    x.crease(0, 0, 0, 9);
    x.crease(1, 0, 0, 0);
    due(26, "wraps(), quarters are not looked at", x.wraps(), 48);
    x.cut(0, 0, 1);
    due(26, "wraps(), cuts are not looked at", x.wraps(), 48);
    x.spot(9, 9, 1);
    due(26, "wraps() with a spot too many", x.wraps(), 0);
    x.spot(0, 0, 0);
    due(26, "wraps(), not hanging together", x.wraps(), 0);
    CubeCarton row = sheet(ROLL);
    draw(row, new int[] {0, 0, 0, 1});
    row.box(1, 1, 1);
    due(26, "wraps() of a row of six", row.wraps(), 0);
    CubeCarton block = sheet(new int[] {0, 0, 0, 0}, new int[] {1, 0, 0, 0}, new int[] {0, 0, 1, 0}, new int[] {1, 0, 1, 0}, new int[] {2, 0, 1, 0});
    block.box(1, 1, 1);
    due(26, "wraps() of a comb, where two lie on one", block.wraps(), 0);
    CubeCarton stairs = sheet(new int[] {0, 0, 0, 0}, new int[] {1, 0, 1, 0}, new int[] {1, 1, 0, 0}, new int[] {2, 1, 1, 0}, new int[] {2, 2, 0, 0});
    stairs.box(1, 1, 1);
    due(26, "wraps() of stairs", stairs.wraps(), 48);
    CubeCarton ring = sheet(new int[] {0, 0, 0, 0}, new int[] {1, 0, 0, 0}, new int[] {2, 0, 0, 0}, new int[] {1, 1, 0, 0}, new int[] {1, 0, 1, 0});
    ring.box(1, 1, 1);
    due(26, "wraps() of two rows side by side", ring.wraps(), 0);
    // About a corner of four cubes lying flat four squares meet, about one of a cube three.
    CubeCarton four = sheet(new int[] {0, 0, 0, 0}, new int[] {0, 0, 1, 0}, new int[] {1, 0, 1, 0}, new int[] {0, 1, 0, 0});
    draw(four, new int[] {1, 0, 0, 0}, new int[] {2, 0, 0, 0}, new int[] {3, 0, 0, 0}, new int[] {2, 0, 1, 0}, new int[] {3, 0, 1, 0}, new int[] {4, 0, 1, 0});
    draw(four, new int[] {0, 0, 3, 0}, new int[] {1, 0, 3, 0}, new int[] {0, 1, 1, 0}, new int[] {1, 1, 1, 0}, new int[] {4, 0, 0, 0}, new int[] {4, 1, 0, 0});
    four.box(2, 2, 1);
    due(26, "count(2)", four.count(2), 16);
    int whole = four.wraps();
    due(26, "wraps() with a level ring", whole, 16);
    four.crease(0, 1, 0, 5);
    due(26, "wraps() without that ring", four.wraps(), whole);
    creaseTooMany(0, 2, 0, new int[][] {
      {1, 0}, {1, 2}, {2, 0}, {2, 1}, {3, 3}, {4, 1}, {4, 2}, {5, 2}, {5, 3}, {6, 0}, {6, 2}, {9, 0}, {9, 1}, {10, 0}, {11, 0},
    });
    creaseTooMany(0, 1, 1, new int[][] {
      {0, 1}, {0, 2}, {1, 2}, {1, 3}, {3, 0}, {4, 0}, {4, 2}, {5, 0}, {5, 2}, {6, 2}, {9, 1}, {10, 0}, {10, 3}, {11, 0}, {11, 2},
    });
    CubeCarton none = new CubeCarton();
    none.box(1, 1, 1);
    due(26, "wraps() without spots", none.wraps(), 0);
  }

  /** One crease more, where the squares are not across: no two lie on one, but it does not fit. */
  private static void creaseTooMany(int x, int y, int direction, int[][] edges) {
    CubeCarton three = new CubeCarton();
    three.layer(0, 0x13);
    for (int[] e : edges) three.cut(e[0], e[1], 1);
    due(26, "open() of three cubes", three.open(), 13);
    due(26, "wraps() of three cubes", three.wraps(), 4);
    due(26, "crease(" + x + ", " + y + ", " + direction + ", 0)", three.crease(x, y, direction, 0), 5);
    due(26, "wraps() with a crease too many", three.wraps(), 0);
  }

  private static void way() {
    CubeCarton x = sheet(CROSS);
    refused(27, x, "way(0, 0) without cubes", c -> c.way(0, 0), NO);
    refused(27, x, "way(-1, 0) without cubes", c -> c.way(-1, 0), BAD);
    refused(27, x, "way(0, 3) without cubes", c -> c.way(0, 3), BAD);
    x.box(1, 1, 1);
    for (int i = 0; i < 48; i++) {
      due(27, "way(" + i + ", 0)", x.way(i, 0), i % 24 / 4);
      due(27, "way(" + i + ", 1)", x.way(i, 1), i % 4);
      due(27, "way(" + i + ", 2)", x.way(i, 2), i / 24);
    }
    due(27, "way(48, 0)", x.way(48, 0), NONE);
    due(27, "way(GREATEST, 2)", x.way(GREATEST, 2), NONE);
    refused(27, x, "way(-1, 0)", c -> c.way(-1, 0), BAD);
    refused(27, x, "way(48, 3)", c -> c.way(48, 3), BAD);
    refused(27, x, "way(0, -1)", c -> c.way(0, -1), BAD);
    x.box(2, 1, 1);
    due(27, "way(0, 0) of none", x.way(0, 0), NONE);
    wayOfAHandedSkin();
  }

  /** A body that is not its mirror's: its own sheet wraps it unturned at square 0, turn 0. */
  private static void wayOfAHandedSkin() {
    CubeCarton x = new CubeCarton();
    x.layer(0, 0x23);
    x.layer(1, 0x20);
    due(27, "skin()", x.skin(), 18);
    Set<Integer> seen = new HashSet<>(Set.of(0)), left = new HashSet<>();
    List<Integer> row = new ArrayList<>(List.of(0));
    for (int i = 0; i < row.size(); i++) for (int k = 0; k < 4; k++) {
      int other = x.across(row.get(i), k, 0);
      if (!seen.add(other)) continue;
      row.add(other);
      left.add(4 * row.get(i) + k);
      left.add(4 * other + x.across(row.get(i), k, 1));
    }
    for (int i = 0; i < 18; i++) for (int k = 0; k < 4; k++)
      if (!left.contains(4 * i + k) && x.across(i, k, 3) == 0) x.cut(i, k, 1);
    due(27, "open()", x.open(), 17);
    // Laid from square 0 with turn 0, the spot at (0, 0) lies on square 0; the first spot's way tells its own.
    int ways = x.wraps();
    boolean ordered = true;
    int last = -1;
    for (int i = 0; i < ways; i++) {
      int key = 1000 * x.way(i, 2) + 4 * x.way(i, 0) + x.way(i, 1);
      ordered &= key > last;
      last = key;
    }
    due(27, "ways in order", ordered ? 1 : 0, 1);
    due(27, "half turns of the body are ways, and no way is turned over", ways, 2);
    due(27, "way(1, 2)", x.way(1, 2), 0);
    x.turn(1);
    due(27, "wraps(), turned over", x.wraps(), 2);
    due(27, "way(0, 2)", x.way(0, 2), 1);
    due(27, "way(1, 2)", x.way(1, 2), 1);
  }

  private static List<Integer> wholeState(CubeCarton x) {
    List<Integer> all = state(x);
    all.remove(4);
    for (int z = 0; z < 4; z++) all.add(bits(x, z));
    for (int i = 0; i < x.skin() && x.well() == 0; i++) for (int k = 0; k < 4; k++) all.add(x.across(i, k, 3));
    all.addAll(spots(x));
    all.addAll(formOf(x));
    return all;
  }

  private static void undo() {
    due(28, "undo() of none", new CubeCarton().undo(), NO);
    List<ToIntFunction<CubeCarton>> changes = List.of(
      c -> c.layer(1, 1), c -> c.lose(0), c -> c.cube(0, 0, 0), c -> c.copy(0, 0, 0, 1, 1), c -> c.box(1, 2, 1),
      c -> c.cut(1, 0, 1), c -> c.spot(8, 8, 1), c -> c.spot(0, 0, 0), c -> c.crease(0, 0, 0, 9), CubeCarton::open,
      c -> c.turn(0), c -> c.turn(1), CubeCarton::clear);
    for (int i = 0; i < changes.size(); i++) {
      CubeCarton x = new CubeCarton();
      x.box(1, 1, 1);
      int[][] edges = {{0, 2}, {1, 1}, {1, 3}, {2, 0}, {2, 2}, {3, 0}, {3, 2}};
      for (int[] e : edges) x.cut(e[0], e[1], 1);
      draw(x, new int[] {0, 0, 0, 1}, new int[] {1, 0, 1, 0});
      List<Integer> before = wholeState(x);
      due(28, "count(4)", x.count(4), 8);
      due(28, "change " + i + " is done", changes.get(i).applyAsInt(x) >= 0 ? 1 : 0, 1);
      due(28, "change " + i + " is seen", wholeState(x).equals(before) ? 1 : 0, 0);
      due(28, "undo() of change " + i, x.undo(), 7);
      due(28, "the state behind undo() of change " + i, wholeState(x), before);
    }
    undoEight();
  }

  private static void undoEight() {
    CubeCarton x = new CubeCarton();
    for (int i = 0; i < 11; i++) {
      x.spot(i, 0, 1);
      due(28, "count(4)", x.count(4), Math.min(i + 1, 8));
    }
    x.shelve(0);
    x.spot(99, 0, 1);
    x.fold();
    x.open();
    due(28, "count(4)", x.count(4), 8);
    for (int i = 7; i >= 0; i--) {
      due(28, "undo()", x.undo(), i);
      due(28, "count(2)", x.count(2), 3 + i);
    }
    refused(28, x, "undo() of none kept", CubeCarton::undo, NO);
    due(28, "count(2)", x.count(2), 3);
    x.spot(20, 0, 1);
    x.spot(3, 0, 0);
    due(28, "count(4), a change that changes nothing", x.count(4), 2);
    due(28, "undo()", x.undo(), 1);
    due(28, "undo()", x.undo(), 0);
    due(28, "spots", spots(x), List.of(0, 0, 0, 1, 0, 0, 2, 0, 0));
  }

  private static void count() {
    CubeCarton x = new CubeCarton();
    x.layer(1, 0xF0F);
    x.layer(3, 0);
    draw(x, new int[] {0, 0, 0, 0}, new int[] {1, 0, 0, 1});
    x.crease(0, 0, 0, 1);
    int[] want = {8, 2, 3, 2, 8};
    for (int what = 0; what < 5; what++) due(29, "count(" + what + ")", x.count(what), want[what]);
    x.undo();
    due(29, "count(4)", x.count(4), 7);
    refused(29, x, "count(5)", c -> c.count(5), BAD);
    refused(29, x, "count(-1)", c -> c.count(-1), BAD);
    refused(29, x, "count(GREATEST)", c -> c.count(GREATEST), BAD);
  }
}
