import java.util.ArrayDeque;
import java.util.ArrayList;
import java.util.Deque;
import java.util.List;
import java.util.TreeSet;

/** Runs of 512 calls on one object: the last is answered as the first is. ModelTests has more of them, drawn from seeds. */
public final class LongRunTests extends Checks {
  private static final int MOST_CALLS = 512;
  /** What is to be cut so that one CUBE's skin becomes a cross. */
  private static final int[][] CROSS_CUTS = {{0, 2}, {1, 1}, {1, 3}, {2, 0}, {2, 2}, {3, 0}, {3, 2}};

  public static void main(String[] args) {
    runTests(LongRunTests.class, "run");
  }

  /** A call's name, numbers and answer. */
  private record Call(String name, int want, int... a) { }

  private static void upToThe512th(Run x, Call... calls) {
    for (int i = 0; x.calls() < MOST_CALLS; i++) due(x, calls[i % calls.length].want(), calls[i % calls.length].name(), calls[i % calls.length].a());
    due("how many calls were made", x.calls(), MOST_CALLS);
  }

  private static Run crossOpened() {
    Run x = new Run().with("box", 1, 1, 1);
    for (int[] e : CROSS_CUTS) x.call("cut", e[0], e[1], 1);
    return x.with("open").with("shelve", 3);
  }

  static void runOfCallsThatAskOneAtATime() {
    Call[] calls = {
      new Call("well", 0), new Call("skin", 6), new Call("square", 4, 4, 3), new Call("across", 2, 0, 0, 0), new Call("cuts", 7), new Call("told", 3, 1, 2),
      new Call("fold", 0), new Call("where", 999, 2, 2), new Call("closed", 1), new Call("form", 3, 3), new Call("same", 2), new Call("alike", 1, 3),
      new Call("wraps", 48), new Call("way", 1, 47, 2), new Call("count", 8, 4),
    };
    for (Call call : calls) upToThe512th(crossOpened(), call);
    upToThe512th(crossOpened(), calls);
  }

  static void runOfCallsThatAreRefused() {
    Call[] calls = {
      new Call("layer", BAD, 4, 0), new Call("lose", NOTHING, 1), new Call("cube", INDEX, 0, 16, 1), new Call("copy", NOTHING, 0, 0, 2, 0, 1), new Call("box", BAD, 0, 1, 1),
      new Call("square", BAD, 6, 0), new Call("across", BAD, 0, 4, 0), new Call("cut", BAD, 0, 0, 2), new Call("spot", BAD, 31, 0, 1), new Call("crease", NO, 9, 9, 0, 1),
      new Call("turn", BAD, 2), new Call("told", BAD, 6, 0), new Call("where", BAD, 0, 5), new Call("form", BAD, -1), new Call("shelve", BAD, 6),
      new Call("alike", BAD, -1), new Call("way", BAD, -1, 0), new Call("count", BAD, 5),
    };
    for (Call call : calls) upToThe512th(crossOpened(), call);
    Run x = crossOpened();
    List<String> before = State.now(x), kept = State.kept(x);
    for (int i = 0; i < 200; i++) due(x, calls[i % calls.length].want(), calls[i % calls.length].name(), calls[i % calls.length].a());
    due("the state behind 200 calls that were refused", State.now(x), before);
    due("what is kept behind them", State.kept(x), kept);
    upToThe512th(x, calls);
  }

  static void runOfChanges() {
    upToThe512th(crossOpened(), new Call("layer", 16, 3, -1), new Call("lose", 16, 3));
    upToThe512th(crossOpened(), new Call("cube", 0, 0, 15, 1), new Call("cube", 1, 0, 15, 0));
    upToThe512th(crossOpened(), new Call("copy", 3, 0, 0, 0, 1, 3), new Call("layer", 1, 0, 1));
    upToThe512th(crossOpened(), new Call("box", 64, 4, 4, 4), new Call("box", 1, 1, 1, 1));
    upToThe512th(crossOpened(), new Call("cut", 0, 0, 0, 1), new Call("cut", 1, 0, 0, 0));
    upToThe512th(crossOpened(), new Call("open", 5), new Call("clear", 6));
    upToThe512th(crossOpened(), new Call("spot", 0, 30, 30, 1), new Call("spot", 1, 30, 30, 0));
    upToThe512th(crossOpened(), new Call("crease", 1, 0, 0, 0, 9), new Call("crease", 9, 0, 0, 0, 5), new Call("crease", 5, 0, 0, 0, 1));
    upToThe512th(crossOpened(), new Call("turn", 0, 0), new Call("turn", 0, 1));
    upToThe512th(crossOpened(), new Call("shelve", 6, 5), new Call("clear", 6), new Call("shelve", 0, 5), new Call("undo", 7));
    upToThe512th(crossOpened(), new Call("undo", 7), new Call("open", 5));
  }

  /** The dearest calls, with as many SPOTS and SQUARES as there can be. */
  static void runWithSixtySpotsAndSixtySquares() {
    Run x = Net.whole(0xF99F, 1, 1, 1).cut().with("open").with("shelve", 0);
    upToThe512th(x, new Call("open", 59), new Call("fold", 0), new Call("closed", 1), new Call("wraps", 2), new Call("way", NONE, 2, 0), new Call("way", 1, 1, 2),
      new Call("form", NONE, 240), new Call("same", 1), new Call("alike", 1, 0), new Call("turn", 0, 0), new Call("turn", 0, 1), new Call("count", 59, 3),
      new Call("skin", 60), new Call("spot", FULL, 30, 30, 1), new Call("alike", 1, 0), new Call("wraps", 2));
  }

  /** Bodies, cuts, sheets and shelves by turns, as long as there are calls. */
  static void runOfOneCartonAfterAnother() {
    Run x = new Run();
    for (int i = 0; x.calls() <= MOST_CALLS - 32; i++) {
      due(x, 1, "box", 1, 1, 1);
      for (int[] e : CROSS_CUTS) due(x, 0, "cut", e[0], e[1], 1);
      due(x, 5, "open");
      due(x, 0, "fold");
      due(x, 1, "closed");
      due(x, 48, "wraps");
      due(x, i < 6 ? 0 : 1, "alike", i % 6);
      due(x, 6, "shelve", i % 6);
      due(x, 0, "turn", i % 2);
      due(x, 1, "alike", i % 6);
      due(x, 0, "spot", 9, i, 1);
      due(x, 0, "alike", i % 6);
      due(x, 0, "wraps");
      for (int left = 7; left >= 5; left--) due(x, left, "undo");
      due(x, 7, "cuts");
      due(x, 0, "count", 2);
      for (int left = 4; left >= 0; left--) due(x, left, "undo");
      due(x, 2, "cuts");
      due(x, NO, "undo");
    }
    upToThe512th(x, new Call("count", 1, 0), new Call("skin", 6));
  }

  /** CHANGES come and are taken back in all rhythms; what is kept is the latest eight. */
  static void runOfChangesAndUndo() {
    for (int rhythm = 1; rhythm <= 12; rhythm++) {
      Run x = new Run();
      TreeSet<Integer> spots = new TreeSet<>();
      Deque<TreeSet<Integer>> kept = new ArrayDeque<>();
      for (int i = 0; x.calls() < MOST_CALLS - 2; i++) {
        if (i % 13 < rhythm) {
          int place = i * 7 % 50;
          boolean there = spots.contains(place);
          kept.addLast(new TreeSet<>(spots));
          if (kept.size() > 8) kept.removeFirst();
          due(x, there ? 1 : 0, "spot", place % 10, place / 10, there ? 0 : 1);
          if (!spots.remove(place)) spots.add(place);
        } else {
          due(x, kept.isEmpty() ? NO : kept.size() - 1, "undo");
          if (!kept.isEmpty()) spots = kept.removeLast();
        }
        if (i % 5 == 0) due(x, spots.size(), "count", 2);
        if (i % 3 == 0) due(x, kept.size(), "count", 4);
        if (i % 4 == 0 && !spots.isEmpty()) due(x, spots.last() % 10, "told", spots.size() - 1, 0);
      }
    }
  }

  /** Places of bodies in all LAYERS for a whole run, with what each place has. */
  static void runOfCubes() {
    Run x = new Run().with("layer", 0, 0).with("layer", 1, 0).with("layer", 2, 0).with("layer", 3, 0);
    List<Integer> cubes = new ArrayList<>();
    for (int i = 0; x.calls() < MOST_CALLS - 1; i++) {
      Integer place = i * 29 % 64;
      int on = i / 64 % 2 == 0 ? 1 : 0;
      due(x, cubes.contains(place) ? 1 : 0, "cube", place / 16, place % 16, on);
      cubes.remove(place);
      if (on == 1) cubes.add(place);
      due(x, cubes.size(), "count", 0);
    }
  }
}
