import java.util.ArrayList;
import java.util.Arrays;
import java.util.List;

/** The boundary cases that the document names for sheets (promises 14 to 29): a test for each sentence. */
public final class SheetBoundaryTests extends Checks {
  public static void main(String[] args) {
    runTests(SheetBoundaryTests.class, "promise");
  }

  /** A spot in the midst of four, with a crease to each: level, sharp, hollow, sharp. */
  private static final int[][] STAR = {{0, 0, 0, 0}, {0, 0, 1, 1}, {0, 0, 2, 9}, {0, 0, 3, 1}};
  private static final int[] DX = {1, 0, -1, 0}, DY = {0, 1, 0, -1};

  private static Run sheet(int[]... creases) { return draw(new Run(), creases); }

  /** Rows of x, y, how many creases, what is to the right, and what above. */
  private static void dueSheet(Run x, int[]... rows) {
    List<List<Integer>> want = new ArrayList<>();
    for (int[] row : rows) want.add(List.of(row[0], row[1], row[2], row[3], row[4]));
    due("the SHEET behind " + x, State.sheet(x), want);
  }

  // ---- promise 14: spot

  static void promise14XBeyond30IsBad() {
    for (int x : beyond(-30, 30)) for (int on = 0; on <= 1; on++) refused(bench(), BAD, "spot", x, 0, on);
  }

  static void promise14YBeyond30IsBad() {
    for (int y : beyond(-30, 30)) for (int on = 0; on <= 1; on++) refused(bench(), BAD, "spot", 0, y, on);
  }

  static void promise14OnOtherThan1And0IsBad() {
    for (int on : beyond(0, 1)) {
      refused(bench(), BAD, "spot", 0, 0, on);
      refused(bench(), BAD, "spot", 5, 5, on);
    }
  }

  static void promise14XAndYUpTo30BothWaysCanBe() {
    for (int x = -30; x <= 30; x += 30) for (int y = -30; y <= 30; y += 30) {
      Run run = new Run();
      done(run, 0, "spot", x, y, 1);
      dueSheet(run, new int[] {x, y, 0, NO, NO});
      done(run, 1, "spot", x, y, 0);
      due(run, 0, "count", 2);
    }
  }

  static void promise14SixtySpotsAreFull() {
    refused(block(60), FULL, "spot", 20, 20, 1);
    refused(block(60), FULL, "spot", -30, -30, 1);
    refused(block(60), FULL, "spot", 30, 30, 1);
  }

  static void promise14FiftyNineSpotsAreNotFull() {
    Run x = block(59);
    done(x, 0, "spot", 20, 20, 1);
    due(x, 60, "count", 2);
    refused(x, FULL, "spot", 20, 21, 1);
  }

  static void promise14ASpotThatIsThereIsNotFull() {
    Run x = block(60);
    done(x, 1, "spot", 0, 0, 1);
    done(x, 1, "spot", 9, 5, 1);
    due(x, 60, "count", 2);
  }

  static void promise14OneOfSixtyCanGo() {
    Run x = block(60);
    done(x, 0, "spot", 20, 20, 0);
    done(x, 1, "spot", 9, 5, 0);
    due(x, 59, "count", 2);
    done(x, 0, "spot", -30, -30, 1);
    due(x, 60, "count", 2);
    due(x, -30, "told", 0, 0);
    due(x, 8, "told", 59, 0);
    refused(x, FULL, "spot", 9, 5, 1);
  }

  static void promise14BadStandsAheadOfFull() {
    refused(block(60), BAD, "spot", 31, 0, 1);
    refused(block(60), BAD, "spot", 20, -31, 1);
    refused(block(60), BAD, "spot", 20, 20, 2);
  }

  static void promise14NoTwoSpotsAreAtOnePlace() {
    Run x = new Run();
    done(x, 0, "spot", 4, 5, 1);
    done(x, 1, "spot", 4, 5, 1);
    due(x, 1, "count", 2);
    done(x, 1, "spot", 4, 5, 0);
    done(x, 0, "spot", 4, 5, 0);
    due(x, 0, "count", 2);
  }

  static void promise14ASpotThatIsNotThereGoesAsAChange() {
    done(new Run(), 0, "spot", 0, 0, 0);
    done(bench(), 0, "spot", 0, 1, 0);
  }

  static void promise14ASpotGoesWithItsCreases() {
    Run x = sheet(STAR);
    draw(x, new int[] {1, 0, 0, 9});
    done(x, 1, "spot", 0, 0, 0);
    dueSheet(x, new int[][] {{0, -1, 0, NO, NO}, {-1, 0, 0, NO, NO}, {1, 0, 1, 9, NO}, {2, 0, 1, NO, NO}, {0, 1, 0, NO, NO}});
    due(x, 1, "count", 3);
  }

  static void promise14ASpotComesWithoutCreases() {
    Run x = sheet(STAR).with("spot", 0, 0, 0);
    done(x, 0, "spot", 0, 0, 1);
    due(x, 0, "count", 3);
    dueSheet(x, new int[][] {{0, -1, 0, NO, 5}, {-1, 0, 0, 5, NO}, {0, 0, 0, 5, 5}, {1, 0, 0, NO, NO}, {0, 1, 0, NO, NO}});
  }

  static void promise14ASpotComesWithoutCreasesWhateverItsNumber() {
    int[][] places = {{-9, -9}, {-9, -1}, {9, -1}, {-9, 0}, {9, 0}, {-9, 1}, {9, 1}, {9, 9}};
    for (int[] p : places) {
      // One that goes leaves room at the end, and one that comes moves those behind it.
      Run x = sheet(STAR).with("spot", -30, -30, 1).with("spot", -30, -30, 0);
      done(x, 0, "spot", p[0], p[1], 1);
      for (int i = 0; i < 6; i++) {
        boolean isNew = x.call("told", i, 0) == p[0] && x.call("told", i, 1) == p[1];
        boolean isMiddle = x.call("told", i, 0) == 0 && x.call("told", i, 1) == 0;
        due(x, isNew ? 0 : isMiddle ? 4 : 1, "told", i, 2);
      }
    }
  }

  static void promise14CreasesOfOthersAreLeftAsASpotGoes() {
    int[][] square = {{0, 0, 0, 0}, {0, 0, 1, 1}, {1, 0, 1, 9}, {0, 1, 0, 1}};
    int[][] left = {
      {1, 0, 1, NO, 9, 0, 1, 1, 1, NO, 1, 1, 2, NO, NO}, {0, 0, 1, NO, 1, 0, 1, 2, 1, NO, 1, 1, 1, NO, NO},
      {0, 0, 1, 0, NO, 1, 0, 2, NO, 9, 1, 1, 1, NO, NO}, {0, 0, 2, 0, 1, 1, 0, 1, NO, NO, 0, 1, 1, NO, NO},
    };
    for (int i = 0; i < 4; i++) {
      Run x = sheet(square);
      done(x, 1, "spot", i % 2, i / 2, 0);
      int[][] rows = new int[3][];
      for (int k = 0; k < 3; k++) rows[k] = Arrays.copyOfRange(left[i], 5 * k, 5 * k + 5);
      dueSheet(x, rows);
    }
  }

  static void promise14ASpotThatIsThereKeepsItsCreases() {
    Run x = sheet(STAR);
    List<List<Integer>> before = State.sheet(x);
    done(x, 1, "spot", 0, 0, 1);
    due("the SHEET", State.sheet(x), before);
  }

  static void promise14SpotsAreNumberedByYThenX() {
    Run x = new Run();
    int[][] places = {{30, 30}, {-30, 30}, {0, 0}, {30, -30}, {-30, -30}, {-1, 0}, {0, -1}};
    for (int[] p : places) done(x, 0, "spot", p[0], p[1], 1);
    int[][] order = {{-30, -30}, {30, -30}, {0, -1}, {-1, 0}, {0, 0}, {-30, 30}, {30, 30}};
    for (int i = 0; i < 7; i++) for (int what = 0; what < 2; what++) due(x, order[i][what], "told", i, what);
  }

  // ---- promise 15: crease

  static void promise15XOrYBeyond30IsBad() {
    for (int far : beyond(-30, 30)) for (int direction = 0; direction <= 3; direction++) {
      refused(bench(), BAD, "crease", far, 0, direction, 1);
      refused(bench(), BAD, "crease", 0, far, direction, 5);
    }
  }

  static void promise15DirectionsOtherThan0To3AreBad() {
    for (int direction : beyond(0, 3)) refused(bench(), BAD, "crease", 0, 0, direction, 1);
  }

  static void promise15QuartersOtherThan0And1And9And5AreBad() {
    for (int quarter : new int[] {LEAST, -9, -5, -1, 2, 3, 4, 6, 7, 8, 10, GREATEST}) refused(bench(), BAD, "crease", 0, 0, 0, quarter);
  }

  static void promise15NoIfTheSpotIsNotThere() {
    refused(new Run(), NO, "crease", 0, 0, 0, 1);
    for (int direction = 0; direction <= 3; direction++) refused(bench(), NO, "crease", 5, 5, direction, 1);
    refused(bench(), NO, "crease", 2, 0, 2, 0);
    refused(bench(), NO, "crease", -1, 0, 0, 5);
  }

  static void promise15NoIfTheOtherSpotIsNotThere() {
    for (int direction = 1; direction <= 3; direction++) refused(bench(), NO, "crease", 0, 0, direction, 9);
    refused(bench(), NO, "crease", 1, 0, 0, 0);
    refused(bench(), NO, "crease", 1, 0, 1, 5);
  }

  static void promise15NoIfTheOtherSpotWouldLieBeyond30() {
    for (int direction = 0; direction <= 3; direction++) {
      Run x = bench().with("spot", 30 * DX[direction], 30 * DY[direction], 1);
      refused(x, NO, "crease", 30 * DX[direction], 30 * DY[direction], direction, 1);
    }
    // The place behind (30, 0) is not the next row's first.
    refused(bench().with("spot", 30, 3, 1).with("spot", -30, 4, 1), NO, "crease", 30, 3, 0, 1);
  }

  static void promise15BadStandsAheadOfNo() {
    refused(new Run(), BAD, "crease", 31, 0, 2, 1);
    refused(new Run(), BAD, "crease", 0, 0, 4, 1);
    refused(new Run(), BAD, "crease", 0, 0, 0, 2);
    refused(bench(), BAD, "crease", 20, 20, -1, 1);
    refused(bench(), BAD, "crease", 0, 0, 1, -1);
  }

  static void promise15EachQuarterIsToldInEachDirection() {
    int[] quarters = {0, 1, 9, 5, 5, 9, 1, 0};
    for (int direction = 0; direction <= 3; direction++) {
      int back = direction + 2 & 3, was = 5;
      Run x = new Run().with("spot", 0, 0, 1).with("spot", DX[direction], DY[direction], 1);
      for (int quarter : quarters) {
        done(x, was, "crease", 0, 0, direction, quarter);
        done(x, quarter, "crease", DX[direction], DY[direction], back, quarter);
        due(x, quarter == 5 ? 0 : 1, "count", 3);
        was = quarter;
      }
    }
  }

  static void promise15CreasesUpToTheRimCanBe() {
    for (int direction = 0; direction <= 3; direction++) {
      int x = 29 * DX[direction], y = 29 * DY[direction];
      Run run = draw(new Run(), new int[] {x, y, direction, 9});
      due(run, 1, "count", 3);
      done(run, 9, "crease", 30 * DX[direction], 30 * DY[direction], direction + 2 & 3, 0);
    }
  }

  static void promise15OtherCreasesOfTheSpotAreLeft() {
    int[] had = {0, 1, 9, 1};
    for (int direction = 0; direction <= 3; direction++) {
      Run x = sheet(STAR);
      done(x, had[direction], "crease", 0, 0, direction, 5);
      for (int other = 0; other <= 3; other++) due(x, other == direction ? 5 : had[other], "crease", 0, 0, other, 5);
    }
  }

  // ---- promise 16: turn

  static void promise16HowOtherThan0And1IsBad() {
    for (int how : beyond(0, 1)) {
      refused(bench(), BAD, "turn", how);
      refused(new Run(), BAD, "turn", how);
    }
  }

  static void promise16WithoutSpotsItIsAChangeToo() {
    for (int how = 0; how <= 1; how++) {
      Run x = new Run();
      done(x, 0, "turn", how);
      due(x, 0, "count", 2);
    }
  }

  static void promise16SpotsAtTheRimStayWithin30() {
    int[][] rows = {{30, 30, -30, 30, -30, 30}, {30, -29, 29, 30, -30, -29}, {-30, 0, 0, -30, 30, 0}, {0, -30, 30, 0, 0, -30}};
    for (int[] row : rows) for (int how = 0; how <= 1; how++) {
      Run x = new Run().with("spot", row[0], row[1], 1);
      done(x, 0, "turn", how);
      dueSheet(x, new int[] {row[2 + 2 * how], row[3 + 2 * how], 0, NO, NO});
    }
  }

  static void promise16CreasesTurnWithTheirSpots() {
    Run quarter = sheet(STAR), over = sheet(STAR);
    done(quarter, 0, "turn", 0);
    dueSheet(quarter, new int[][] {{0, -1, 1, NO, 9}, {-1, 0, 1, 1, NO}, {0, 0, 4, 1, 0}, {1, 0, 1, NO, NO}, {0, 1, 1, NO, NO}});
    done(over, 0, "turn", 1);
    dueSheet(over, new int[][] {{0, -1, 1, NO, 1}, {-1, 0, 1, 0, NO}, {0, 0, 4, 9, 1}, {1, 0, 1, NO, NO}, {0, 1, 1, NO, NO}});
  }

  static void promise16SixtySpotsCanBeTurned() {
    for (int how = 0; how <= 1; how++) {
      Run x = row(60, 7);
      done(x, 0, "turn", how);
      due(x, 60, "count", 2);
      due(x, 59, "count", 3);
      due(x, how == 0 ? -7 : -29, "told", 0, 0);
      due(x, how == 0 ? -30 : 7, "told", 0, 1);
      due(x, how == 0 ? 29 : 7, "told", 59, 1);
    }
  }

  static void promise16FourQuartersOrTwiceOverIsAsItWas() {
    Run x = sheet(STAR).with("spot", 30, -30, 1);
    List<List<Integer>> before = State.sheet(x);
    for (int i = 0; i < 4; i++) due(x, 0, "turn", 0);
    due("the SHEET", State.sheet(x), before);
    for (int i = 0; i < 2; i++) due(x, 0, "turn", 1);
    due("the SHEET", State.sheet(x), before);
  }

  // ---- promise 17: clear

  static void promise17WithoutSpotsItHad0AndIsAChange() {
    Run x = new Run();
    done(x, 0, "clear");
    done(x, 0, "clear");
    due(x, 2, "count", 4);
  }

  static void promise17OneAndSixtySpotsAreGone() {
    for (int many : new int[] {1, 59, 60}) {
      Run x = row(many, 0);
      done(x, many, "clear");
      due(x, 0, "count", 2);
      due(x, 0, "count", 3);
      due(x, BAD, "told", 0, 0);
      due(x, 0, "spot", 0, 0, 1);
    }
  }

  static void promise17CreasesDoNotComeBackWithTheSpots() {
    Run x = sheet(STAR).with("clear").with("spot", 0, 0, 1).with("spot", 1, 0, 1);
    dueSheet(x, new int[][] {{0, 0, 0, 5, NO}, {1, 0, 0, NO, NO}});
  }

  static void promise17BodyCutsAndShelvesStay() {
    Run x = bench();
    List<String> before = State.now(x);
    done(x, 2, "clear");
    List<String> after = State.now(x);
    for (int i = 0; i < 5; i++) due("row " + i + " of the state", after.get(i), before.get(i));
    due(x, 0, "alike", 2);
  }

  // ---- promise 18: told

  static void promise18OtherThanTheSheetsSpotsIsBad() {
    for (int spot : beyond(0, 1)) for (int what = 0; what <= 2; what++) refused(bench(), BAD, "told", spot, what);
    refused(block(60), BAD, "told", 60, 0);
  }

  static void promise18WhatOtherThan0To2IsBad() {
    for (int what : beyond(0, 2)) for (int spot = 0; spot <= 1; spot++) refused(bench(), BAD, "told", spot, what);
  }

  static void promise18WithoutSpotsAllIsBad() {
    for (int what = 0; what <= 2; what++) refused(new Run(), BAD, "told", 0, what);
    refused(sheet(STAR).with("clear"), BAD, "told", 0, 0);
  }

  static void promise18TheFirstAndTheLastSpotAreTold() {
    Run x = block(60);
    int[][] rows = {{0, 0, 0}, {59, 9, 5}};
    for (int[] row : rows) for (int what = 0; what <= 1; what++) asked(x, row[1 + what], "told", row[0], what);
  }

  static void promise18XAndYUpTo30BothWaysAreToldAsTheyAre() {
    Run x = new Run().with("spot", -30, -30, 1).with("spot", 30, 30, 1).with("spot", -1, -1, 1);
    int[] order = {-30, -1, 30};
    for (int i = 0; i < 3; i++) for (int what = 0; what <= 1; what++) asked(x, order[i], "told", i, what);
  }

  static void promise18NoneToFourCreasesAreTold() {
    Run x = sheet(STAR);
    for (int many = 4; many >= 0; many--) {
      asked(x, many, "told", 2, 2);
      // Spots (0, -1), (-1, 0), (0, 0), (1, 0), (0, 1); the creases go in the directions' order.
      asked(x, many == 4 ? 1 : 0, "told", 3, 2);
      if (many > 0) x.call("crease", 0, 0, 4 - many, 5);
    }
  }

  // ---- promise 19: fold

  static void promise19WithoutSpotsIs1() {
    asked(new Run(), 1, "fold");
    asked(sheet(CROSS).with("clear"), 1, "fold");
  }

  static void promise19OneSpotIsFolded() {
    asked(new Run().with("spot", -30, 30, 1), 0, "fold");
  }

  static void promise19SpotsThatDoNotAllHangTogetherByCreasesAre1() {
    asked(new Run().with("spot", 0, 0, 1).with("spot", 1, 0, 1), 1, "fold");
    asked(new Run().with("spot", 0, 0, 1).with("spot", 9, 0, 1), 1, "fold");
    for (int direction = 0; direction <= 3; direction++) asked(sheet(STAR).with("crease", 0, 0, direction, 5), 1, "fold");
    asked(row(60, 0).with("crease", 28, 0, 0, 5), 1, "fold");
    asked(row(60, 0).with("crease", -30, 0, 0, 5), 1, "fold");
    asked(block(60), 1, "fold");
  }

  static void promise19WhatHungTogetherAsItWasFoldedMayNotAnyMore() {
    for (int x : new int[] {-30, 0, 28}) asked(row(60, 0).with("fold").with("crease", x, 0, 0, 5), 1, "fold");
    for (int direction = 0; direction <= 3; direction++) asked(sheet(STAR).with("fold").with("crease", 0, 0, direction, 5), 1, "fold");
  }

  static void promise19TwoWaysToLieAre2() {
    asked(sheet(RING), 2, "fold");
    asked(sheet(RING).with("crease", 0, 0, 0, 9), 2, "fold");
    asked(sheet(RING).with("crease", 0, 0, 0, 1), 0, "fold");
    asked(sheet(RING).with("crease", 0, 1, 0, 5), 0, "fold");
  }

  static void promise19TwoWaysToLieThatDifferAlongOneAxisAre2() {
    // Two rows that hang together at both ends. One is four steps long, the other two, at its height.
    int[][] shorter = {{0, 1, 1, 0}, {0, 1, 0, 1}, {1, 1, 0, 9}, {2, 1, 0, 9}, {3, 1, 0, 1}, {4, 1, 1, 0}};
    int[][] level = {{0, 2, 0, 0}, {1, 2, 0, 0}, {2, 2, 0, 0}, {3, 2, 0, 0}};
    Run along = draw(sheet(shorter), level);
    for (int turns = 0; turns < 4; turns++) asked(along.with("turn", 0), 2, "fold");
    asked(along.with("crease", 4, 1, 1, 5), 0, "fold");
    // Both are as long, but one goes down where the other goes up.
    int[][] apart = {{0, 0, 1, 0}, {0, 0, 0, 1}, {1, 0, 0, 9}, {2, 0, 1, 0}, {0, 1, 0, 9}, {1, 1, 0, 1}};
    asked(sheet(apart), 2, "fold");
    asked(sheet(apart).with("crease", 2, 0, 1, 5), 0, "fold");
    int[][] together = {{0, 0, 1, 0}, {0, 0, 0, 1}, {1, 0, 0, 9}, {2, 0, 1, 0}, {0, 1, 0, 1}, {1, 1, 0, 9}};
    asked(sheet(together), 0, "fold");
  }

  static void promise19TwoWithOneMiddleAre3() {
    asked(sheet(ROLL), 3, "fold");
    asked(sheet(ROLL).with("spot", 0, 0, 0), 0, "fold");
    asked(sheet(ROLL).with("crease", -1, 0, 0, 9), 0, "fold");
  }

  static void promise19TheFirstReasonIsTold() {
    Run both = draw(sheet(RING), ROLL);
    asked(both, 2, "fold");
    asked(both.with("spot", 9, 9, 1), 1, "fold");
    asked(sheet(ROLL).with("spot", 9, 9, 1), 1, "fold");
    asked(sheet(RING).with("spot", 9, 9, 1), 1, "fold");
  }

  static void promise19SixtySpotsCanBeFolded() {
    asked(row(60, -30), 0, "fold");
  }

  // ---- promise 20: where

  static void promise20OtherThanTheSheetsSpotsIsBad() {
    for (int spot : beyond(0, 5)) for (int what = 0; what <= 4; what++) refused(sheet(CROSS), BAD, "where", spot, what);
  }

  static void promise20WhatOtherThan0To4IsBad() {
    for (int what : beyond(0, 4)) for (int spot = 0; spot <= 5; spot += 5) refused(sheet(CROSS), BAD, "where", spot, what);
  }

  static void promise20WithoutSpotsAllIsBad() {
    for (int what = 0; what <= 4; what++) refused(new Run(), BAD, "where", 0, what);
  }

  static void promise20WhatCannotBeFoldedIsNo() {
    for (int what = 0; what <= 4; what++) {
      refused(new Run().with("spot", 0, 0, 1).with("spot", 1, 0, 1), NO, "where", 0, what);
      refused(sheet(RING), NO, "where", 0, what);
      refused(sheet(ROLL), NO, "where", 4, what);
    }
  }

  static void promise20BadStandsAheadOfNo() {
    refused(sheet(RING), BAD, "where", 4, 0);
    refused(sheet(RING), BAD, "where", -1, 0);
    refused(sheet(ROLL), BAD, "where", 0, 5);
    refused(sheet(ROLL), BAD, "where", 0, -1);
  }

  private static void duePose(Run x, int spot, int... pose) {
    for (int what = 0; what <= 4; what++) asked(x, pose[what], "where", spot, what);
  }

  static void promise20Spot0IsTheFirstAndLiesAt000() {
    duePose(new Run().with("spot", 30, -30, 1), 0, 0, 0, 0, 4, 0);
    duePose(sheet(CROSS), 0, 0, 0, 0, 4, 0);
  }

  static void promise20EachSpotOfACrossIsTold() {
    int[][] poses = {{0, 0, 0, 4, 0}, {999, 0, 999, 1, 2}, {0, 1, 999, 2, 0}, {1, 0, 999, 0, 3}, {0, 999, 999, 3, 1}, {0, 0, 998, 5, 0}};
    for (int spot = 0; spot <= 5; spot++) duePose(sheet(CROSS), spot, poses[spot]);
  }

  static void promise20NumbersBelow0AreTold1000More() {
    duePose(sheet(new int[] {0, 0, 0, 1}), 1, 1, 0, 999, 0, 5);
    duePose(sheet(new int[] {0, 0, 0, 9}), 1, 1, 0, 1, 1, 4);
    duePose(sheet(new int[] {0, 0, 1, 0}, new int[] {0, 1, 2, 0}), 1, 998, 2, 0, 4, 0);
  }

  static void promise20TheFarthestOfSixtyAreTold() {
    duePose(row(60, 0), 59, 118, 0, 0, 4, 0);
    duePose(row(60, 0).with("turn", 0), 59, 0, 118, 0, 4, 0);
    duePose(row(60, 0).with("crease", -30, 0, 0, 1), 59, 1, 0, 1000 - 117, 0, 5);
    duePose(row(60, 0).with("crease", -30, 0, 0, 9), 59, 1, 0, 117, 1, 4);
    // The first lies below the right end of a row of 59.
    Run left = row(59, 1).with("spot", 28, 0, 1).with("crease", 28, 0, 1, 0);
    duePose(left, 1, 1000 - 116, 2, 0, 4, 0);
  }

  // ---- promise 21: closed

  static void promise21WithoutSpotsItIsNot() {
    asked(new Run(), 0, "closed");
  }

  static void promise21OneSpotIsNot() {
    asked(new Run().with("spot", 0, 0, 1), 0, "closed");
  }

  static void promise21WhatCannotBeFoldedIsNot() {
    asked(sheet(CROSS).with("crease", 2, 0, 0, 5), 0, "closed");
    asked(sheet(CROSS).with("spot", 9, 9, 1), 0, "closed");
    asked(sheet(RING), 0, "closed");
    asked(draw(sheet(CROSS), new int[] {3, 0, 0, 1}), 0, "closed");
  }

  static void promise21SixSpotsAboutACubeAreAndFiveAreNot() {
    asked(sheet(CROSS), 1, "closed");
    for (int[] spot : new int[][] {{0, 0}, {3, 0}, {1, 1}, {1, -1}}) asked(sheet(CROSS).with("spot", spot[0], spot[1], 0), 0, "closed");
  }

  /** A box of so many cubes, its four walls side by side, with caps at the first and at the last spot of the left one. */
  private static Run tower(int cubes) {
    Run x = new Run();
    for (int y = 0; y < cubes; y++) for (int i = 0; i < 4; i++) x.call("spot", i, y, 1);
    for (int y = 0; y < cubes; y++) for (int i = 0; i < 3; i++) x.call("crease", i, y, 0, 1);
    for (int y = 1; y < cubes; y++) x.call("crease", 0, y, 3, 0);
    return draw(x, new int[] {0, 0, 3, 1}, new int[] {0, cubes - 1, 1, 1});
  }

  static void promise21OneOpenEndIsEnoughThatItIsNot() {
    for (int cubes : new int[] {1, 4, 14}) {
      asked(tower(cubes), 1, "closed");
      asked(tower(cubes).with("spot", 0, -1, 0), 0, "closed");
      asked(tower(cubes).with("spot", 0, cubes, 0), 0, "closed");
      asked(tower(cubes).with("crease", 0, -1, 1, 9), 0, "closed");
      asked(tower(cubes).with("crease", 0, cubes, 3, 0), 0, "closed");
    }
    due(tower(14), 58, "count", 2);
  }

  static void promise21SidesWithNoOtherAreNot() {
    // A flap on the closed cube: three sides lie on one another, and the flap's other three alone.
    Run flap = draw(sheet(CROSS), new int[] {3, 0, 0, 0});
    asked(flap, 0, "fold");
    asked(flap, 0, "closed");
  }

  static void promise21SidesWithThreeOthersAreNot() {
    // Two closed cubes that have an edge in common.
    Run two = sheet(new int[][] {{0, 0, 0, 1}, {1, 0, 0, 1}, {2, 0, 0, 1}, {0, 0, 1, 1}, {0, 0, 3, 1}});
    asked(two, 1, "closed");
    draw(two, new int[][] {{3, 0, 0, 9}, {4, 0, 0, 1}, {5, 0, 0, 1}, {6, 0, 0, 1}, {4, 0, 1, 1}, {4, 0, 3, 1}});
    asked(two, 0, "fold");
    asked(two, 0, "closed");
  }

  // ---- promise 22: form

  static void promise22BelowZeroIsBad() {
    for (int i : new int[] {-1, LEAST}) {
      refused(new Run(), BAD, "form", i);
      refused(bench(), BAD, "form", i);
    }
  }

  static void promise22WithoutSpotsThereIsNone() {
    for (int i : new int[] {0, 1, GREATEST}) asked(new Run(), NONE, "form", i);
  }

  static void promise22FourNumbersASpotAndNoneBehindThem() {
    Run one = new Run().with("spot", 30, -30, 1);
    for (int i = 0; i < 4; i++) asked(one, 0, "form", i);
    for (int i : new int[] {4, 5, GREATEST}) asked(one, NONE, "form", i);
    Run full = block(60);
    int[] last = {5, 9, 0, 0};
    for (int i = 0; i < 4; i++) asked(full, last[i], "form", 236 + i);
    asked(full, NONE, "form", 240);
  }

  private static void dueForm(Run x, int... numbers) {
    for (int i = 0; i < numbers.length; i++) asked(x, numbers[i], "form", i);
    asked(x, NONE, "form", numbers.length);
  }

  static void promise22TheLeastXAndYAre0AndTheMost60() {
    dueForm(new Run().with("spot", -30, -30, 1).with("spot", 30, 30, 1), 0, 0, 0, 0, 60, 60, 0, 0);
    dueForm(new Run().with("spot", 30, -30, 1).with("spot", -30, 29, 1), 0, 0, 0, 0, 59, 60, 0, 0);
    dueForm(new Run().with("spot", 0, 30, 1).with("spot", 0, -30, 1), 0, 0, 0, 0, 0, 60, 0, 0);
  }

  static void promise22NoCreaseIs0AndOthersAre2AndTheQuarter() {
    dueForm(new Run().with("spot", 0, 0, 1).with("spot", 0, 1, 1), 0, 0, 0, 0, 0, 1, 0, 0);
    int[][] quarters = {{9, 1}, {0, 2}, {1, 3}};
    for (int[] q : quarters) dueForm(sheet(new int[] {-30, 30, 0, q[0]}), 0, 0, 0, q[1], 1, 0, 0, 0);
  }

  static void promise22TheLeastOfTheEightIsTold() {
    int[] want = {0, 0, 0, 1, 1, 0, 3, 0, 1, 1, 0, 0};
    Run hook = sheet(new int[] {0, 0, 0, 1}, new int[] {0, 0, 1, 9});
    dueForm(hook, want);
    for (int how : new int[] {0, 0, 0, 1, 0, 0, 0}) dueForm(hook.with("turn", how), want);
  }

  // ---- promise 23: same

  static void promise23WithoutSpotsAllEightAre() {
    asked(new Run(), 8, "same");
  }

  static void promise23OneSpotIsTheSameInAllEight() {
    asked(new Run().with("spot", -30, 7, 1), 8, "same");
  }

  static void promise23FromOneToEightAreTold() {
    Run hook = sheet(new int[] {0, 0, 0, 1}, new int[] {0, 0, 1, 9});
    asked(hook, 1, "same");
    asked(hook.twin().with("crease", 0, 0, 1, 1), 2, "same");
    asked(sheet(new int[] {0, 0, 0, 1}), 4, "same");
    asked(sheet(RING).with("crease", 0, 1, 0, 0), 8, "same");
  }

  static void promise23OfSixtySpotsTheyAreTold() {
    asked(block(60), 4, "same");
    asked(row(60, 30), 4, "same");
    asked(row(60, 30).with("crease", -30, 30, 0, 1), 2, "same");
  }

  // ---- promise 24: shelve

  static void promise24OtherThanShelves0To5IsBad() {
    for (int k : beyond(0, 5)) {
      refused(bench(), BAD, "shelve", k);
      refused(new Run(), BAD, "shelve", k);
    }
  }

  static void promise24EachOfShelves0To5HoldsItsOwn() {
    Run x = new Run();
    for (int k = 0; k <= 5; k++) {
      x.call("spot", k, 0, 1);
      due(x, k + 1, "shelve", k);
    }
    for (int k = 5; k >= 0; k--) {
      for (int other = 0; other <= 5; other++) due(x, other == k ? 1 : 0, "alike", other);
      x.call("undo");
    }
  }

  static void promise24NoneAndSixtySpotsAreTold() {
    due(new Run(), 0, "shelve", 0);
    due(bench().with("clear"), 0, "shelve", 5);
    due(block(60), 60, "shelve", 0);
    due(row(59, 0), 59, "shelve", 5);
  }

  static void promise24ItStaysInHandAndIsNoChange() {
    for (Run x : List.of(bench(), eightKept(bench()), new Run())) {
      Run after = x.twin();
      due(after, x.twin().call("count", 2), "shelve", 0);
      // All but the shelves, which are the last row.
      due("the state behind " + after, State.now(after).subList(0, 6), State.now(x).subList(0, 6));
      due("what is kept behind " + after, State.kept(after), State.kept(x));
    }
  }

  static void promise24WhatLayThereIsGone() {
    Run x = bench();
    due(x, 1, "alike", 2);
    x.call("clear");
    due(x, 0, "shelve", 2);
    due(x, 1, "alike", 2);
    x.call("undo");
    due(x, 0, "alike", 2);
    // A longer sheet is gone whole behind a shorter one.
    Run longer = row(60, 0).with("shelve", 1).with("clear").with("spot", 0, 0, 1).with("spot", 1, 0, 1);
    due(longer, 2, "shelve", 1);
    due(longer, 1, "alike", 1);
    due(longer.with("crease", 0, 0, 0, 0), 0, "alike", 1);
  }

  static void promise24WhatLiesThereIsLeftByChangesAndUndo() {
    int[][] changes = {{9, 9, 1}, {0, 0, 0}};
    for (int[] c : changes) {
      Run x = bench().with("shelve", 0).with("spot", c[0], c[1], c[2]);
      due(x, 0, "alike", 0);
      due(x.with("undo"), 1, "alike", 0);
      due(x.with("undo"), 0, "alike", 0);
    }
    due(bench().with("crease", 0, 0, 0, 1), 0, "alike", 2);
  }

  // ---- promise 25: alike

  static void promise25OtherThanShelves0To5IsBad() {
    for (int k : beyond(0, 5)) {
      refused(bench(), BAD, "alike", k);
      refused(new Run(), BAD, "alike", k);
    }
  }

  static void promise25ShelvesAreWithoutSpotsAtFirst() {
    for (int k = 0; k <= 5; k++) {
      asked(new Run(), 1, "alike", k);
      asked(new Run().with("spot", 0, 0, 1), 0, "alike", k);
    }
  }

  static void promise25NotAsManySpotsAreNotAlike() {
    // The shorter FORM is how the longer one begins.
    Run longer = new Run().with("spot", 0, 0, 1).with("shelve", 0).with("spot", 1, 0, 1).with("shelve", 1);
    asked(longer, 0, "alike", 0);
    asked(longer, 1, "alike", 1);
    asked(longer.with("undo"), 0, "alike", 1);
    asked(longer, 1, "alike", 0);
    asked(block(59).with("shelve", 3).with("spot", 9, 5, 1), 0, "alike", 3);
  }

  static void promise25TurnedTurnedOverAndMovedAreAlike() {
    Run x = sheet(new int[] {0, 0, 0, 1}, new int[] {0, 0, 1, 9}).with("shelve", 4);
    for (int how : new int[] {0, 0, 0, 1, 0, 0, 0}) asked(x.with("turn", how), 1, "alike", 4);
    draw(x.with("clear"), new int[] {29, 29, 0, 1}, new int[] {29, 29, 1, 9});
    asked(x, 1, "alike", 4);
    asked(x.with("crease", 29, 29, 1, 0), 0, "alike", 4);
  }

  static void promise25OfSixtySpotsTheLastNumberCounts() {
    Run x = row(60, 0).with("shelve", 0);
    asked(x.with("turn", 0), 1, "alike", 0);
    // In the FORM of a row all creases are across its SPOTS: the middle one is the last to be told apart.
    asked(x.twin().with("crease", 0, -1, 1, 1), 0, "alike", 0);
    asked(x.twin().with("crease", 0, -1, 1, 5), 0, "alike", 0);
    asked(x.twin().with("crease", 0, -30, 1, 9), 0, "alike", 0);
    // Of a block the last crease of the least row is that between its last two SPOTS.
    Run block = block(60).with("shelve", 0);
    for (int i = 0; i < 8; i++) block.call("crease", i, 5, 0, 0);
    block.call("shelve", 1);
    block.call("crease", 8, 5, 0, 0);
    asked(block, 0, "alike", 0);
    asked(block, 0, "alike", 1);
  }

  // ---- promise 26: wraps

  static void promise26ABodyThatIsNotWellIsNo() {
    refused(new Run(), NO, "wraps");
    refused(sheet(CROSS), NO, "wraps");
    refused(body(0, 0), NO, "wraps");
    for (int reason = 2; reason <= 4; reason++) refused(notWell(reason), NO, "wraps");
  }

  private static Run crossOnACube() { return sheet(CROSS).with("box", 1, 1, 1); }

  static void promise26WithoutSpotsThereAreNoWays() {
    asked(body(1), 0, "wraps");
    asked(crossOnACube().with("clear"), 0, "wraps");
  }

  static void promise26NotAsManySpotsAsSquaresHaveNoWays() {
    asked(crossOnACube(), 48, "wraps");
    asked(crossOnACube().with("spot", 3, 0, 0), 0, "wraps");
    asked(draw(crossOnACube(), new int[] {3, 0, 0, 1}), 0, "wraps");
    asked(crossOnACube().with("box", 2, 1, 1), 0, "wraps");
  }

  static void promise26SpotsThatDoNotHangTogetherHaveNoWays() {
    asked(crossOnACube().with("crease", 2, 0, 0, 5), 0, "wraps");
    asked(crossOnACube().with("crease", 1, 0, 3, 5), 0, "wraps");
    asked(crossOnACube().with("spot", 3, 0, 0).with("spot", 9, 9, 1), 0, "wraps");
  }

  static void promise26TwoOnOneSquareHaveNoWays() {
    asked(draw(sheet(ROLL), new int[] {0, 0, 0, 1}).with("box", 1, 1, 1), 0, "wraps");
    // The first and the last of five in a row alone lie on one, with a sixth beside.
    for (int x = -4; x <= 0; x++) for (int direction = 1; direction <= 3; direction += 2)
      asked(draw(sheet(ROLL), new int[] {x, 0, direction, 1}).with("box", 1, 1, 1), 0, "wraps");
  }

  static void promise26QuartersAndCutsAreNotLookedAt() {
    Run x = crossOnACube();
    for (int quarter : new int[] {0, 9, 1}) asked(x.with("crease", 1, 0, 0, quarter), 48, "wraps");
    asked(x.with("cut", 0, 0, 1), 48, "wraps");
  }

  private static Net sixty() {
    Net net = new Net(0xF99F, 1, 1, 1);
    due("squares", net.squares, 60);
    due("all squares have places", net.layAll(), true);
    return net;
  }

  static void promise26SixtySpotsWrapSixtySquares() {
    // The BODY is its own mirror's, and has no other symmetry.
    asked(sixty().cut().with("open"), 2, "wraps");
    asked(sixty().cut().with("open").with("turn", 0), 2, "wraps");
  }

  static void promise26MoreThanSixtySquaresHaveNoWays() {
    asked(row(60, 0).with("box", 4, 4, 4), 0, "wraps");
    Run more = sixty().cut().with("open").with("cube", 3, 1, 1);
    due(more, 64, "skin");
    asked(more, 0, "wraps");
  }

  // ---- promise 27: way

  static void promise27BelowZeroIsBad() {
    for (int i : new int[] {-1, LEAST}) for (int what = 0; what <= 2; what++) refused(crossOnACube(), BAD, "way", i, what);
  }

  static void promise27WhatOtherThan0To2IsBad() {
    for (int what : beyond(0, 2)) for (int i = 0; i <= 48; i += 24) refused(crossOnACube(), BAD, "way", i, what);
  }

  static void promise27ABodyThatIsNotWellIsNo() {
    for (int what = 0; what <= 2; what++) {
      refused(new Run(), NO, "way", 0, what);
      refused(notWell(2), NO, "way", 0, what);
      refused(notWell(3), NO, "way", GREATEST, what);
      refused(notWell(4), NO, "way", 0, what);
    }
  }

  static void promise27BadStandsAheadOfNo() {
    refused(new Run(), BAD, "way", -1, 0);
    refused(notWell(2), BAD, "way", 0, 3);
    refused(notWell(3), BAD, "way", 0, -1);
  }

  static void promise27ThereAreNotSoManyIsNone() {
    for (int what = 0; what <= 2; what++) {
      for (int i : new int[] {48, 49, GREATEST}) asked(crossOnACube(), NONE, "way", i, what);
      asked(body(1), NONE, "way", 0, what);
      asked(crossOnACube().with("spot", 9, 9, 1), NONE, "way", 0, what);
      asked(row(60, 0).with("box", 4, 4, 4), NONE, "way", 0, what);
    }
  }

  static void promise27TheFirstAndTheLastAreTold() {
    int[][] rows = {{0, 0, 0, 0}, {23, 5, 3, 0}, {24, 0, 0, 1}, {47, 5, 3, 1}};
    for (int[] row : rows) for (int what = 0; what <= 2; what++) asked(crossOnACube(), row[1 + what], "way", row[0], what);
  }

  static void promise27OfSixtySquaresTheyAreTold() {
    Net net = sixty();
    Run x = net.cut().with("open");
    for (int quarters = 0; quarters < 4; quarters++) {
      int square = squareUnder(net, x, quarters);
      asked(x, square, "way", 0, 0);
      asked(x, net.turn(square) + quarters & 3, "way", 0, 1);
      asked(x, 0, "way", 0, 2);
      asked(x, 1, "way", 1, 2);
      asked(x, NONE, "way", 2, 0);
      x.call("turn", 0);
    }
  }

  /** The SQUARE that came to SPOT 0 as THE SKIN was opened, so many quarter turns ago. */
  private static int squareUnder(Net net, Run x, int quarters) {
    int toldX = x.call("told", 0, 0), toldY = x.call("told", 0, 1);
    for (int square = 0; square < net.squares; square++) {
      int px = net.place(square).get(0), py = net.place(square).get(1);
      for (int i = 0, was = px; i < quarters; i++, was = px) {
        px = -py;
        py = was;
      }
      if (px == toldX && py == toldY) return square;
    }
    throw new IllegalStateException("no SQUARE came to SPOT 0");
  }

  // ---- promise 28: undo

  static void promise28NothingKeptIsNo() {
    asked(new Run(), NO, "undo");
    asked(new Run().with("shelve", 0).with("fold").with("count", 4), NO, "undo");
    asked(new Run().with("lose", 0).with("spot", 31, 0, 1).with("open").with("undo"), NO, "undo");
    asked(new Run().with("clear").with("undo"), NO, "undo");
  }

  static void promise28TheLatest8AreKept() {
    for (int many : new int[] {1, 7, 8, 9, 15, 16, 17, 60}) {
      Run x = block(many);
      int kept = Math.min(many, 8);
      asked(x, kept, "count", 4);
      for (int left = kept - 1; left >= 0; left--) {
        due(x, left, "undo");
        due(x, many - kept + left, "count", 2);
        due(x, left, "count", 4);
      }
      asked(x, NO, "undo");
    }
  }

  static void promise28UndoIsNoChangeItself() {
    Run x = block(3);
    due(x, 2, "undo");
    due(x, 1, "undo");
    due(x, 1, "count", 2);
    done(x, 0, "spot", 9, 0, 1);
    asked(x, 2, "count", 4);
    due(x, 1, "undo");
    due(x, 0, "undo");
    due(x, NO, "undo");
  }

  static void promise28ChangesBehindAnUndoAreKeptAgainUpTo8() {
    Run x = block(12);
    for (int i = 0; i < 5; i++) x.call("undo");
    for (int i = 0; i < 7; i++) done(x, 0, "spot", i, 5, 1);
    asked(x, 8, "count", 4);
    for (int left = 7; left >= 0; left--) due(x, left, "undo");
    // The seven behind are taken back, and of the three that were still kept the latest.
    due(x, 6, "count", 2);
    due(x, NO, "undo");
  }

  static void promise28EachChangeIsKeptAndTakenBack() {
    Run x = new Run();
    for (int[] e : new int[][] {{0, 2}, {1, 1}, {1, 3}, {2, 0}, {2, 2}, {3, 0}, {3, 2}}) {
      if (x.twin().call("skin") == 0) done(x, 1, "box", 1, 1, 1);
      done(x, 0, "cut", e[0], e[1], 1);
    }
    done(x, 5, "open");
    done(x, 1, "crease", 0, 0, 0, 9);
    done(x, 0, "turn", 0);
    done(x, 0, "turn", 1);
    done(x, 0, "spot", 9, 9, 1);
    done(x, 7, "clear");
    done(x, 2, "layer", 1, 3);
    done(x, 0, "cube", 1, 5, 1);
    done(x, 2, "copy", 1, 0, 0, 14, 2);
    done(x, 3, "lose", 1);
  }

  static void promise28CallsThatAreRefusedAreNotKept() {
    Run x = bench();
    int[][] numbers = {{4, 1}, {3}, {0, 16, 1}, {0, 0, 1, 0, 1}, {5, 1, 1}, {10, 0, 1}, {31, 0, 1}, {9, 9, 0, 1}, {2}, {}};
    String[] names = {"layer", "lose", "cube", "copy", "box", "cut", "spot", "crease", "turn", "open"};
    int[] answers = {BAD, NOTHING, INDEX, NOTHING, BAD, BAD, BAD, NO, BAD, -22};
    for (int i = 0; i < names.length; i++) refused(x, answers[i], names[i], numbers[i]);
  }

  static void promise28CallsThatAskAreNotKept() {
    Run x = crossOnACube();
    int[][] answers = {{0}, {6}, {0}, {0}, {1}, {2}, {48}};
    String[] names = {"well", "skin", "cuts", "fold", "closed", "same", "wraps"};
    for (int i = 0; i < names.length; i++) asked(x, answers[i][0], names[i]);
    asked(x, 1, "told", 0, 0);
    asked(x, 1, "form", 1);
    asked(x, 2, "across", 0, 0, 0);
    asked(x, 5, "square", 5, 3);
    asked(x, 4, "where", 0, 3);
    asked(x, 0, "alike", 0);
    asked(x, 0, "way", 0, 0);
  }

  // ---- promise 29: count

  static void promise29WhatOtherThan0To4IsBad() {
    for (int what : beyond(0, 4)) {
      refused(bench(), BAD, "count", what);
      refused(new Run(), BAD, "count", what);
    }
  }

  static void promise29OfNothingAllAre0() {
    for (int what = 0; what <= 4; what++) asked(new Run(), 0, "count", what);
  }

  static void promise29OfAllThereCanBeTheyAreTold() {
    Run x = block(60);
    for (int i = 0; i < 60; i++) for (int d = 0; d < 2; d++) x.call("crease", i % 10, i / 10, d, 1);
    x.call("box", 4, 4, 4);
    int[] want = {64, 4, 60, 104, 8};
    for (int what = 0; what <= 4; what++) due(x, want[what], "count", what);
  }

  static void promise29LayersWithoutCubesAreThere() {
    asked(body(-1, 0, 0), 2, "count", 1);
    asked(body(0, 0, 0, 0), 4, "count", 1);
    asked(body(0, 0, 0, 0), 0, "count", 0);
    asked(body(0, 0, 0, 0).with("lose", 0), 3, "count", 1);
  }
}
