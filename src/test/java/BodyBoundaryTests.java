import java.util.List;

/** The boundary cases that the document names for bodies (promises 1 to 13): a test for each sentence. */
public final class BodyBoundaryTests extends Checks {
  public static void main(String[] args) {
    runTests(BodyBoundaryTests.class, "promise");
  }

  // ---- promise 1: a new object

  static void promise01AllLayersAreMissing() {
    for (int z = 0; z <= 3; z++) {
      asked(new Run(), NOTHING, "lose", z);
      asked(new Run(), NOTHING, "cube", z, 0, 1);
      asked(new Run(), NOTHING, "copy", z, 0, z, 0, 0);
    }
    asked(new Run(), 0, "count", 0);
    asked(new Run(), 0, "count", 1);
  }

  static void promise01ThereAreNoSpots() {
    asked(new Run(), 0, "count", 2);
    asked(new Run(), 0, "count", 3);
    asked(new Run(), BAD, "told", 0, 0);
    done(new Run(), 0, "clear");
  }

  static void promise01NothingIsKeptAndNothingCut() {
    asked(new Run(), 0, "count", 4);
    asked(new Run(), NO, "undo");
    asked(new Run(), 0, "cuts");
  }

  static void promise01AnotherObjectIsLeftAlone() {
    Run x = new Run();
    List<String> before = State.now(x);
    for (int k = 0; k <= 5; k++) bench().with("shelve", k);
    due("the state of another object", State.now(x), before);
    due(x, 0, "count", 4);
  }

  static void promise01The512thCallIsAnswered() {
    Run x = new Run();
    for (int i = 0; i < 503; i++) due(x, Integer.bitCount(i), "layer", 0, i);
    for (int left = 7; left >= 0; left--) due(x, left, "undo");
    due(x, Integer.bitCount(494), "count", 0);
  }

  // ---- promise 2: layer

  static void promise02OtherThanLayers0To3IsBad() {
    for (int z : beyond(0, 3)) {
      refused(bench(), BAD, "layer", z, 1);
      refused(new Run(), BAD, "layer", z, 0);
    }
  }

  static void promise02Layers0To3CanBeThere() {
    Run x = new Run();
    for (int z = 0; z <= 3; z++) {
      done(x, 1, "layer", z, 1 << 5 * z);
      due(x, z + 1, "count", 1);
      due("bits of LAYER " + z, bits(x, z), 1 << 5 * z);
    }
  }

  static void promise02TheLowest16BitsAloneCount() {
    int[][] rows = {
      {0, 0}, {1, 1}, {0x8000, 1}, {0x10000, 0}, {0x18000, 1}, {0xFFFF, 16}, {0x1FFFF, 16}, {-1, 16}, {LEAST, 0}, {GREATEST, 16}, {LEAST + 1, 1},
    };
    for (int[] row : rows) {
      Run x = bench();
      done(x, row[1], "layer", 2, row[0]);
      due("bits of LAYER 2", bits(x, 2), row[0] & 0xFFFF);
    }
  }

  static void promise02Bit4YPlusXIsThePlaceAtXY() {
    for (int y = 0; y < 4; y++) for (int x = 0; x < 4; x++) {
      Run run = body(-1, -1, -1, 1 << 4 * y + x);
      due(run, x, "square", 0, 0);
      due(run, y, "square", 0, 1);
      due(run, 3, "square", 0, 2);
    }
  }

  static void promise02ALayerWithoutCubesIsThere() {
    Run x = new Run();
    done(x, 0, "layer", 1, 0);
    due(x, 1, "count", 1);
    due("bits of LAYER 1", bits(x, 1), 0);
    due("bits of LAYER 0", bits(x, 0), NOTHING);
  }

  static void promise02WhatTheLayerHadIsGone() {
    Run x = body(0xFFFF, 0xFFFF);
    done(x, 1, "layer", 0, 0x40);
    due("bits of LAYER 0", bits(x, 0), 0x40);
    due("bits of LAYER 1", bits(x, 1), 0xFFFF);
  }

  // ---- promise 3: lose

  static void promise03OtherThanLayers0To3IsBad() {
    for (int z : beyond(0, 3)) {
      refused(bench(), BAD, "lose", z);
      refused(body(0, 0, 0, 0), BAD, "lose", z);
    }
  }

  static void promise03ALayerThatIsMissingIsNothing() {
    for (int z = 0; z <= 3; z++) refused(new Run(), NOTHING, "lose", z);
    for (int z = 1; z <= 3; z++) refused(bench(), NOTHING, "lose", z);
    refused(body(1, 1, 1, 1).with("lose", 3), NOTHING, "lose", 3);
  }

  static void promise03Layers0To3CanBeLost() {
    for (int z = 0; z <= 3; z++) {
      Run x = body(1, 3, 7, 15);
      done(x, z + 1, "lose", z);
      for (int other = 0; other <= 3; other++) due("bits of LAYER " + other, bits(x, other), other == z ? NOTHING : (2 << other) - 1);
      due(x, 3, "count", 1);
    }
  }

  static void promise03ALayerWithoutCubesHad0() {
    Run x = body(-1, 0);
    done(x, 0, "lose", 1);
    due("bits of LAYER 1", bits(x, 1), NOTHING);
  }

  static void promise03AFullLayerHad16() {
    done(body(0xFFFF), 16, "lose", 0);
  }

  // ---- promise 4: cube

  static void promise04OtherThanLayers0To3IsBad() {
    for (int z : beyond(0, 3)) refused(bench(), BAD, "cube", z, 0, 1);
  }

  static void promise04OnOtherThan1And0IsBad() {
    for (int on : beyond(0, 1)) refused(bench(), BAD, "cube", 0, 0, on);
  }

  static void promise04ALayerThatIsMissingIsNothing() {
    for (int z = 1; z <= 3; z++) for (int on = 0; on <= 1; on++) refused(bench(), NOTHING, "cube", z, 5, on);
  }

  static void promise04OtherThanPlaces0To15IsIndex() {
    for (int place : beyond(0, 15)) for (int on = 0; on <= 1; on++) refused(bench(), INDEX, "cube", 0, place, on);
  }

  static void promise04BadStandsAheadOfNothing() {
    refused(bench(), BAD, "cube", 1, 0, 2);
    refused(bench(), BAD, "cube", 1, 0, -1);
  }

  static void promise04BadStandsAheadOfIndex() {
    refused(bench(), BAD, "cube", 0, 16, 2);
    refused(bench(), BAD, "cube", 4, -1, 1);
  }

  static void promise04NothingStandsAheadOfIndex() {
    refused(bench(), NOTHING, "cube", 3, 16, 1);
    refused(bench(), NOTHING, "cube", 3, -1, 0);
  }

  static void promise04Places0To15CanHaveACubeOrNone() {
    for (int z = 0; z <= 3; z += 3) for (int place = 0; place <= 15; place += 5) {
      Run x = body(0, -1, -1, 0);
      done(x, 0, "cube", z, place, 1);
      due("bits of LAYER " + z, bits(x, z), 1 << place);
      Run y = body(0xFFFF, -1, -1, 0xFFFF);
      done(y, 1, "cube", z, place, 0);
      due("bits of LAYER " + z, bits(y, z), 0xFFFF & ~(1 << place));
    }
  }

  static void promise04WhatIsSoAlreadyIsAChangeToo() {
    Run x = body(0x8001);
    done(x, 1, "cube", 0, 15, 1);
    done(x, 0, "cube", 0, 14, 0);
    due("bits of LAYER 0", bits(x, 0), 0x8001);
  }

  // ---- promise 5: copy

  /** LAYERS 0 and 2 are there, 1 and 3 MISSING. */
  private static Run twoLayers() {
    return bench().with("layer", 0, 0x53CA).with("layer", 2, 0x0FF1);
  }

  static void promise05OtherThanLayers0To3IsBad() {
    for (int z : beyond(0, 3)) {
      refused(twoLayers(), BAD, "copy", z, 0, 2, 0, 1);
      refused(twoLayers(), BAD, "copy", 0, 0, z, 0, 1);
    }
  }

  static void promise05BadStandsAheadOfNothing() {
    refused(twoLayers(), BAD, "copy", 1, 0, 4, 0, 1);
    refused(twoLayers(), BAD, "copy", -1, 0, 3, 0, 1);
  }

  static void promise05BadStandsAheadOfIndex() {
    refused(twoLayers(), BAD, "copy", 4, 16, 0, 0, 1);
    refused(twoLayers(), BAD, "copy", 0, 0, -1, 0, -1);
  }

  static void promise05NothingIfOneIsMissing() {
    refused(twoLayers(), NOTHING, "copy", 1, 0, 0, 0, 1);
    refused(twoLayers(), NOTHING, "copy", 0, 0, 1, 0, 1);
    refused(twoLayers(), NOTHING, "copy", 1, 0, 3, 0, 1);
    refused(twoLayers(), NOTHING, "copy", 3, 0, 3, 0, 0);
  }

  static void promise05NothingStandsAheadOfIndex() {
    refused(twoLayers(), NOTHING, "copy", 3, 16, 0, 0, 1);
    refused(twoLayers(), NOTHING, "copy", 0, 0, 3, -1, 1);
    refused(twoLayers(), NOTHING, "copy", 0, 0, 1, 0, -1);
    refused(twoLayers(), NOTHING, "copy", 1, 0, 0, 0, 17);
  }

  static void promise05NoSuchPlacesIsIndex() {
    for (int place : beyond(0, 15)) {
      refused(twoLayers(), INDEX, "copy", 0, place, 2, 0, 1);
      refused(twoLayers(), INDEX, "copy", 0, 0, 2, place, 1);
    }
  }

  static void promise05ManyBelow0IsIndex() {
    refused(twoLayers(), INDEX, "copy", 0, 0, 2, 0, -1);
    refused(twoLayers(), INDEX, "copy", 0, 8, 0, 8, -8);
    refused(twoLayers(), INDEX, "copy", 0, 0, 2, 0, LEAST);
    refused(twoLayers(), INDEX, "copy", 0, 16, 2, 16, -1);
  }

  static void promise05NotSoManyPlacesIsIndex() {
    for (int place = 0; place <= 16; place += 4) {
      refused(twoLayers(), INDEX, "copy", 0, place, 2, 0, 17 - place);
      refused(twoLayers(), INDEX, "copy", 0, 0, 2, place, 17 - place);
    }
  }

  static void promise05AllPlacesThatThereAreCanBeCopied() {
    for (int place = 0; place <= 16; place++) {
      int many = 16 - place, lowest = (1 << many) - 1;
      Run from = twoLayers();
      done(from, many, "copy", 0, place, 2, 0, many);
      due("bits of LAYER 2", bits(from, 2), 0x0FF1 & ~lowest | 0x53CA >> place);
      due("bits of LAYER 0", bits(from, 0), 0x53CA);
      Run to = twoLayers();
      done(to, many, "copy", 0, 0, 2, place, many);
      due("bits of LAYER 2", bits(to, 2), 0x0FF1 & (1 << place) - 1 | (0x53CA & lowest) << place);
    }
  }

  static void promise05NoPlacesAtAllCanBeCopiedFrom0To16() {
    for (int place : new int[] {0, 15, 16}) {
      Run x = twoLayers();
      done(x, 0, "copy", 0, place, 2, 16 - place, 0);
      due("bits of LAYER 2", bits(x, 2), 0x0FF1);
    }
    for (int place : beyond(0, 16)) {
      refused(twoLayers(), INDEX, "copy", 0, place, 2, 0, 0);
      refused(twoLayers(), INDEX, "copy", 0, 0, 2, place, 0);
    }
  }

  static void promise05SumsThatWrapAroundAreIndex() {
    int[][] rows = {
      {1, 0, GREATEST}, {0, 1, GREATEST}, {GREATEST, 0, GREATEST}, {0, GREATEST, GREATEST}, {GREATEST, 0, 2}, {0, GREATEST, 2}, {LEAST, 0, LEAST},
      {LEAST, LEAST, GREATEST}, {0, 0, 0x10000001}, {-1, 0, 2}, {0, -1, 17},
    };
    for (int[] row : rows) refused(twoLayers(), INDEX, "copy", 0, row[0], 2, row[1], row[2]);
  }

  static void promise05PlacesOfTheSameLayerAreCopiedAsTheyWere() {
    int[][] rows = {{0, 1, 15}, {1, 0, 15}, {0, 5, 11}, {5, 0, 11}, {3, 3, 13}, {0, 0, 16}, {4, 8, 8}, {2, 3, 1}};
    for (int[] row : rows) {
      Run x = twoLayers();
      done(x, row[2], "copy", 0, row[0], 0, row[1], row[2]);
      int places = (1 << row[2]) - 1;
      due("bits of LAYER 0", bits(x, 0), 0x53CA & ~(places << row[1]) | (0x53CA >> row[0] & places) << row[1]);
    }
  }

  static void promise05LayersBehindTheLastPlaceAreLeft() {
    Run x = body(0xFFFF, 0, 0, 0xFFFF);
    done(x, 4, "copy", 0, 12, 1, 12, 4);
    due("bits of LAYER 1", bits(x, 1), 0xF000);
    due("bits of LAYER 2", bits(x, 2), 0);
    done(x, 1, "copy", 2, 0, 3, 0, 1);
    due("bits of LAYER 3", bits(x, 3), 0xFFFE);
    due("bits of LAYER 2", bits(x, 2), 0);
  }

  // ---- promise 6: box

  static void promise06SidesOtherThan1To4AreBad() {
    for (int side : beyond(1, 4)) {
      refused(bench(), BAD, "box", side, 1, 1);
      refused(bench(), BAD, "box", 4, side, 4);
      refused(bench(), BAD, "box", 2, 2, side);
    }
    refused(bench(), BAD, "box", -1, -1, 1);
  }

  static void promise06SidesAre1To4AlongXYZ() {
    for (int a = 1; a <= 4; a++) for (int b = 1; b <= 4; b++) for (int c = 1; c <= 4; c++) {
      Run x = body(0x8000, 0x8000, 0x8000, 0x8000);
      due(x, a * b * c, "box", a, b, c);
      int bits = 0;
      for (int y = 0; y < b; y++) bits |= (1 << a) - 1 << 4 * y;
      for (int z = 0; z < 4; z++) due("bits of LAYER " + z + " behind " + x, bits(x, z), z < c ? bits : NOTHING);
    }
  }

  static void promise06TheLeastAndTheGreatestBoxAreChanges() {
    done(bench(), 1, "box", 1, 1, 1);
    done(bench(), 64, "box", 4, 4, 4);
  }

  static void promise06OtherLayersAreMissing() {
    Run x = body(0xFFFF, 0xFFFF, 0xFFFF, 0xFFFF);
    done(x, 16, "box", 4, 4, 1);
    due(x, 1, "count", 1);
    for (int z = 1; z <= 3; z++) refused(x, NOTHING, "lose", z);
  }

  // ---- promise 7: well

  static void promise07NoCubeIs1() {
    asked(new Run(), 1, "well");
    asked(body(0), 1, "well");
    asked(body(0, 0, 0, 0), 1, "well");
    asked(body(-1, -1, -1, 0), 1, "well");
  }

  static void promise07OneCubeIsWellAnywhere() {
    for (int z = 0; z <= 3; z++) for (int place = 0; place <= 15; place++) {
      Run x = new Run().with("layer", z, 1 << place);
      due(x, 0, "well");
      due(x, 6, "skin");
    }
  }

  static void promise07AllCubesAreWell() {
    asked(body(0xFFFF, 0xFFFF, 0xFFFF, 0xFFFF), 0, "well");
  }

  static void promise07CubesThatDoNotHangTogetherAre2() {
    due(body(0x05), 2, "well");
    due(body(1, 0, 1), 2, "well");
    due(body(1, -1, 1), 2, "well");
    due(body(0x21), 2, "well");
    due(body(1, 0x20), 2, "well");
    due(body(1, -1, -1, 0x8000), 2, "well");
  }

  static void promise07TheEndOfARowIsNotBesideTheNextOnesBegin() {
    for (int y = 0; y < 3; y++) due(body(0x18 << 4 * y), 2, "well");
    for (int z = 0; z < 3; z++) due(new Run().with("layer", z, 0x8000).with("layer", z + 1, 1), 2, "well");
    for (int z = 0; z < 3; z++) due(new Run().with("layer", z, 0x1000).with("layer", z + 1, 1), 2, "well");
    due(body(0x1001), 2, "well");
    due(body(0x0009), 2, "well");
    due(body(1, 0, 0, 1), 2, "well");
  }

  static void promise07TwoSideBySideAreWell() {
    int[] steps = {1, 4, 16};
    for (int axis = 0; axis < 3; axis++) for (int place = 0; place < 64; place++) {
      if ((place >> 2 * axis & 3) == 3) continue;
      due(withCubes(1L << place | 1L << place + steps[axis]), 0, "well");
    }
  }

  /** Bits 16 * z + 4 * y + x. */
  private static Run withCubes(long cells) {
    Run x = new Run();
    for (int z = 0; z < 4; z++) x.call("layer", z, (int) (cells >> 16 * z) & 0xFFFF);
    return x;
  }

  private static long bit(int x, int y, int z) { return 1L << 16 * z + 4 * y + x; }

  /** At each edge that four places have: two of them without, two with a CUBE, none of these side by side. */
  static void promise07EachEdgeOfTwoCubesAloneIs3() {
    int[][] rims = {{0, 1, 1}, {1, 0, 1}, {1, 1, 0}};
    for (int[] r : rims) for (int x = r[0]; x < 4; x++) for (int y = r[1]; y < 4; y++) for (int z = r[2]; z < 4; z++) {
      // Two axes across the edge: one step back along either, or along both.
      int[] first = r[0] == 1 ? new int[] {1, 0, 0} : new int[] {0, 1, 0};
      int[] second = r[2] == 1 ? new int[] {0, 0, 1} : new int[] {0, 1, 0};
      long one = bit(x - first[0], y - first[1], z - first[2]), two = bit(x - second[0], y - second[1], z - second[2]);
      long here = bit(x, y, z), both = bit(x - first[0] - second[0], y - first[1] - second[1], z - first[2] - second[2]);
      due(withCubes(~(one | two)), 3, "well");
      due(withCubes(~(here | both)), 3, "well");
      due(withCubes(one | two | here), 0, "well");
      due(withCubes(one | two | here | both), 0, "well");
    }
  }

  /** At each corner that eight places have: six of them without, two with a CUBE, across the corner. */
  static void promise07EachCornerOfTwoCubesAloneIs3() {
    for (int corner = 0; corner < 27; corner++) for (int diagonal = 0; diagonal < 4; diagonal++) {
      int x = corner % 3, y = corner / 3 % 3, z = corner / 9;
      long all = 0, two = 0;
      boolean alone = false;
      for (int i = 0; i < 8; i++) {
        int dx = i & 1, dy = i >> 1 & 1, dz = i >> 2;
        all |= bit(x + dx, y + dy, z + dz);
        if (i != diagonal && i != 7 - diagonal) continue;
        two |= bit(x + dx, y + dy, z + dz);
        // In a corner of the LAYERS a CUBE has no other neighbours than the six.
        alone |= (x + dx) % 3 == 0 && (y + dy) % 3 == 0 && (z + dz) % 3 == 0;
      }
      due(withCubes(~all | two), alone ? 2 : 3, "well");
    }
  }

  static void promise07APlaceWithoutCubeShutInIs4() {
    for (int place = 0; place < 64; place++) {
      int x = place & 3, y = place >> 2 & 3, z = place >> 4;
      boolean inside = x % 3 != 0 && y % 3 != 0 && z % 3 != 0;
      due(withCubes(~(1L << place)), inside ? 4 : 0, "well");
    }
  }

  static void promise07PlacesInsideHangTogetherWithThoseOutsideByAnyDoor() {
    // The inner eight are without CUBES; a door stands in the midst of each of the six walls.
    long hollow = 0;
    for (int i = 0; i < 8; i++) hollow |= bit(1 + (i & 1), 1 + (i >> 1 & 1), 1 + (i >> 2));
    due(withCubes(~hollow), 4, "well");
    long[] doors = {bit(0, 1, 2), bit(3, 2, 1), bit(2, 0, 1), bit(1, 3, 2), bit(1, 2, 0), bit(2, 1, 3)};
    for (long door : doors) due(withCubes(~(hollow | door)), 0, "well");
    // In the frame between two walls a place has no side in common with the hollow.
    for (long frame : new long[] {bit(0, 0, 1), bit(3, 0, 2), bit(1, 3, 3), bit(0, 2, 0)}) due(withCubes(~(hollow | frame)), 3, "well");
  }

  static void promise07PlacesWithoutCubesHangTogetherOutsideOfTheLayers() {
    due(withCubes(~(bit(0, 0, 0) | bit(3, 3, 3))), 0, "well");
    due(withCubes(~(bit(1, 1, 0) | bit(1, 1, 3))), 0, "well");
    due(withCubes(~(bit(0, 1, 1) | bit(3, 2, 2))), 0, "well");
    due(body(-1, 0xFFFF, 0xFFFF), 0, "well");
  }

  static void promise07TheFirstThatItIsNotIsTold() {
    // Two CUBES with an edge alone, and one apart.
    due(body(0x8021, 0x0023), 2, "well");
    // A hollow of two places that have an edge in common alone: the CUBES between them too.
    due(withCubes(~(bit(1, 1, 1) | bit(2, 2, 1))), 3, "well");
    // A hollow, and one CUBE apart.
    due(body(0x777, 0x757, 0x777, 0x8000), 2, "well");
    // A hollow, and elsewhere an edge.
    due(withCubes(~(bit(2, 2, 2) | bit(0, 0, 0) | bit(1, 1, 0))), 3, "well");
  }

  // ---- promise 8: skin

  static void promise08NoCubesHaveNoSquares() {
    asked(new Run(), 0, "skin");
    asked(body(0, 0, 0, 0), 0, "skin");
  }

  static void promise08SquaresTowardPlacesBeyondTheLayersAreOuter() {
    asked(body(1), 6, "skin");
    asked(body(-1, -1, -1, 0x8000), 6, "skin");
    asked(body(0xFFFF, 0xFFFF, 0xFFFF, 0xFFFF), 96, "skin");
  }

  static void promise08SquaresTowardAMissingOrEmptyLayerAreOuter() {
    asked(body(0xFFFF, -1, 0xFFFF), 96, "skin");
    asked(body(0xFFFF, 0, 0xFFFF), 96, "skin");
    asked(body(0xFFFF, 0xFFFF), 64, "skin");
  }

  static void promise08ABodyThatIsNotWellHasASkinToo() {
    asked(notWell(2), 12, "skin");
    asked(notWell(3), 22, "skin");
    asked(notWell(4), 60, "skin");
    asked(body(0xA5A5, 0x5A5A, 0xA5A5, 0x5A5A), 192, "skin");
  }

  // ---- promise 9: square

  static void promise09OtherThanTheSkinsSquaresIsBad() {
    for (int square : beyond(0, 9)) for (int what = 0; what <= 3; what++) refused(bench(), BAD, "square", square, what);
  }

  static void promise09WhatOtherThan0To3IsBad() {
    for (int what : beyond(0, 3)) {
      refused(bench(), BAD, "square", 0, what);
      refused(bench(), BAD, "square", 9, what);
    }
  }

  static void promise09WithoutCubesAllIsBad() {
    refused(new Run(), BAD, "square", 0, 0);
    refused(body(0, 0, 0, 0), BAD, "square", 0, 3);
  }

  static void promise09TheFirstAndTheLastSquareAreTold() {
    int[][] rows = {{0, 0, 0, 0, 1}, {9, 1, 0, 0, 5}};
    for (int[] row : rows) for (int what = 0; what <= 3; what++) asked(bench(), row[1 + what], "square", row[0], what);
    Run all = body(0xFFFF, 0xFFFF, 0xFFFF, 0xFFFF);
    int[][] corners = {{0, 0, 0, 0, 1}, {95, 3, 3, 3, 4}};
    for (int[] row : corners) for (int what = 0; what <= 3; what++) asked(all, row[1 + what], "square", row[0], what);
    refused(all, BAD, "square", 96, 0);
  }

  static void promise09SquaresOfABodyThatIsNotWellAreTold() {
    Run x = body(0xA5A5, 0x5A5A, 0xA5A5, 0x5A5A);
    int[] first = {0, 0, 0, 0}, last = {2, 3, 3, 5};
    for (int what = 0; what <= 3; what++) {
      due(x, first[what], "square", 0, what);
      due(x, last[what], "square", 191, what);
    }
    due(x, BAD, "square", 192, 0);
  }

  // ---- promise 10: across

  static void promise10OtherThanTheSkinsSquaresIsBad() {
    for (int square : beyond(0, 9)) refused(bench(), BAD, "across", square, 0, 0);
  }

  static void promise10SidesOtherThan0To3AreBad() {
    for (int side : beyond(0, 3)) refused(bench(), BAD, "across", 0, side, 0);
  }

  static void promise10WhatOtherThan0To3IsBad() {
    for (int what : beyond(0, 3)) refused(bench(), BAD, "across", 9, 3, what);
  }

  static void promise10ABodyThatIsNotWellIsNo() {
    for (int reason = 2; reason <= 4; reason++) for (int what = 0; what <= 3; what++) refused(notWell(reason), NO, "across", 0, 0, what);
    refused(notWell(2), NO, "across", 11, 3, 0);
  }

  static void promise10BadStandsAheadOfNo() {
    refused(notWell(2), BAD, "across", 12, 0, 0);
    refused(notWell(2), BAD, "across", -1, 0, 0);
    refused(notWell(3), BAD, "across", 0, 4, 0);
    refused(notWell(4), BAD, "across", 0, 0, 4);
    refused(new Run(), BAD, "across", 0, 0, 0);
  }

  static void promise10TheFirstAndTheLastSquareAreTold() {
    // The ends of two CUBES in a row along x: square 0 looks x down, square 9 z down.
    int[][] rows = {{0, 0, 1, 3, 1, 1}, {0, 3, 3, 2, 1, 0}, {9, 0, 5, 3, 1, 0}, {9, 3, 6, 2, 1, 0}, {9, 2, 4, 0, 0, 0}};
    for (int[] row : rows) for (int what = 0; what <= 3; what++) asked(bench(), row[2 + what], "across", row[0], row[1], what);
  }

  static void promise10HollowIs9FlatIs0SharpIs1() {
    Run x = body(0x03, 0x01);
    asked(x, 9, "across", 7, 2, 2);
    asked(x, 9, "across", 9, 3, 2);
    asked(x, 0, "across", 1, 1, 2);
    asked(x, 1, "across", 7, 0, 2);
  }

  static void promise10BeyondTheLayersIsSharp() {
    Run x = body(0xFFFF, 0xFFFF, 0xFFFF, 0xFFFF);
    int[] many = new int[10];
    for (int i = 0; i < 96; i++) for (int k = 0; k < 4; k++) many[x.call("across", i, k, 2)]++;
    due("SIDES that are SHARP", many[1], 96);
    due("SIDES that are FLAT", many[0], 288);
  }

  // ---- promise 11: cut

  static void promise11OtherThanTheSkinsSquaresIsBad() {
    for (int square : beyond(0, 9)) refused(bench(), BAD, "cut", square, 0, 1);
  }

  static void promise11SidesOtherThan0To3AreBad() {
    for (int side : beyond(0, 3)) refused(bench(), BAD, "cut", 0, side, 1);
  }

  static void promise11OnOtherThan1And0IsBad() {
    for (int on : beyond(0, 1)) {
      refused(bench(), BAD, "cut", 0, 0, on);
      refused(bench(), BAD, "cut", 9, 3, on);
    }
  }

  static void promise11ABodyThatIsNotWellIsNo() {
    for (int reason = 2; reason <= 4; reason++) for (int on = 0; on <= 1; on++) refused(notWell(reason), NO, "cut", 0, 0, on);
  }

  static void promise11BadStandsAheadOfNo() {
    refused(notWell(2), BAD, "cut", 12, 0, 1);
    refused(notWell(2), BAD, "cut", 0, -1, 1);
    refused(notWell(3), BAD, "cut", 0, 0, 2);
    refused(new Run(), BAD, "cut", 0, 0, 1);
  }

  static void promise11TheFirstAndTheLastSidesCanBeCut() {
    int[][] rows = {{0, 1, 4, 2}, {0, 3, 3, 2}, {9, 0, 5, 3}, {9, 3, 6, 2}};
    for (int[] row : rows) {
      Run x = bench();
      done(x, 0, "cut", row[0], row[1], 1);
      due(x, 1, "across", row[0], row[1], 3);
      due(x, 1, "across", row[2], row[3], 3);
      due(x, 2, "cuts");
      done(x, 1, "cut", row[2], row[3], 0);
      due(x, 0, "across", row[0], row[1], 3);
      due(x, 1, "cuts");
    }
  }

  static void promise11WhatIsSoAlreadyIsAChangeToo() {
    Run x = bench();
    done(x, 1, "cut", 0, 0, 1);
    done(x, 0, "cut", 0, 1, 0);
    due(x, 1, "cuts");
  }

  // ---- promise 12: cuts

  static void promise12NoneAreCutAtFirst() {
    asked(new Run(), 0, "cuts");
    asked(body(1), 0, "cuts");
    asked(notWell(2), 0, "cuts");
  }

  static void promise12AnEdgeOfTwoSidesIsOne() {
    Run x = body(1);
    due(x, 0, "cut", 0, 0, 1);
    due(x, 1, "cuts");
    due(x, 1, "cut", 2, 1, 1);
    due(x, 1, "cuts");
    due(x, 1, "cut", 2, 1, 0);
    due(x, 0, "cuts");
  }

  static void promise12AllEdgesCanBeCut() {
    Run one = body(1), all = body(0xFFFF, 0xFFFF, 0xFFFF, 0xFFFF);
    for (int i = 0; i < 6; i++) for (int k = 0; k < 4; k++) one.call("cut", i, k, 1);
    due(one, 12, "cuts");
    for (int i = 0; i < 96; i++) for (int k = 0; k < 4; k++) all.call("cut", i, k, 1);
    due(all, 192, "cuts");
  }

  static void promise12NoneAsTheBodyChangesEvenToWhatItWas() {
    int[][] changes = {{0, 3}, {3, 0}, {0, 1}};
    for (int[] c : changes) cutsAreNone(bench(), "layer", c);
    cutsAreNone(bench(), "lose", 0);
    cutsAreNone(bench().with("layer", 3, 0).with("cut", 0, 0, 1), "lose", 3);
    cutsAreNone(bench(), "cube", 0, 0, 1);
    cutsAreNone(bench(), "cube", 0, 15, 0);
    cutsAreNone(bench(), "cube", 0, 2, 1);
    cutsAreNone(bench(), "copy", 0, 0, 0, 0, 16);
    cutsAreNone(bench(), "copy", 0, 16, 0, 0, 0);
    cutsAreNone(bench(), "box", 2, 1, 1);
    cutsAreNone(bench(), "box", 1, 1, 1);
  }

  private static void cutsAreNone(Run x, String name, int... a) {
    asked(x, 1, "cuts");
    x.call(name, a);
    due(x, 0, "cuts");
    Run back = x.twin();
    back.call("undo");
    due(back, 1, "cuts");
    due(back, 1, "across", 0, 0, 3);
    // Nor do they come up again with the BODY that they were of.
    x.call("box", 2, 1, 1);
    due(x, 0, "cuts");
    for (int k = 0; k < 4; k++) due(x, 0, "across", 0, k, 3);
  }

  static void promise12TheSheetDoesNotTouchCuts() {
    Run x = bench().with("turn", 0).with("spot", 3, 3, 1).with("clear");
    asked(x, 1, "cuts");
  }

  // ---- promise 13: open

  /** A ring of twelve CUBES with a tower of three more: 60 SQUARES. */
  private static final int[] SIXTY = {0xF99F, 1, 1, 1};
  /** The same with a gap in the ring, and one more on the tower: 62 SQUARES; no BODY has 61. */
  private static final int[] SIXTY_TWO = {0xF99D, 1, 1, 3};
  /** What is to be cut so that one CUBE's skin becomes a cross. */
  private static final int[][] CROSS_CUTS = {{0, 2}, {1, 1}, {1, 3}, {2, 0}, {2, 2}, {3, 0}, {3, 2}};
  /** What is to be cut so that of a box of 3, 2, 1 two SQUARES come to one place: the first, the last, or others. */
  private static final int[][] FIRST_OVERLAPS = {
    {0, 0}, {0, 1}, {0, 2}, {1, 2}, {1, 3}, {2, 1}, {3, 3}, {4, 3}, {5, 1}, {6, 0}, {7, 0}, {7, 3}, {8, 0}, {10, 3},
    {12, 0}, {12, 2}, {14, 0}, {15, 0}, {15, 2}, {16, 0}, {18, 0}, {18, 3}, {19, 2},
  };
  private static final int[][] LAST_OVERLAPS = {
    {0, 1}, {0, 2}, {1, 2}, {4, 0}, {4, 2}, {5, 1}, {6, 0}, {7, 0}, {7, 1}, {7, 3}, {8, 0}, {8, 2}, {11, 0}, {11, 1},
    {11, 3}, {12, 1}, {13, 0}, {14, 0}, {15, 2}, {16, 0}, {18, 3}, {19, 0}, {19, 2},
  };
  private static final int[][] OTHERS_OVERLAP = {
    {0, 1}, {0, 2}, {1, 3}, {2, 0}, {2, 1}, {3, 3}, {4, 0}, {4, 2}, {5, 1}, {6, 3}, {7, 1}, {7, 3}, {8, 2}, {9, 1},
    {10, 3}, {11, 1}, {12, 0}, {12, 2}, {15, 0}, {15, 1}, {17, 0}, {18, 0}, {18, 3},
  };

  private static Run cutAll(Run x, int[][] edges) {
    for (int[] e : edges) x.call("cut", e[0], e[1], 1);
    return x;
  }

  private static Run crossToBe() { return cutAll(body(1), CROSS_CUTS); }
  private static Run overlapToBe(int[][] cuts) { return cutAll(new Run().with("box", 3, 2, 1), cuts); }

  /** Two belts of 20 SQUARES, 58 in all, laid as one long strip with so many steps of the second belt onward. */
  private static Net belts(int direction, int far) {
    Net net = direction % 2 == 0 ? new Net(0xF171, 0xF171) : new Net(0x11, 0x77, 0x11, 0xFF);
    net.layBelts(direction, far);
    return net;
  }

  static void promise13ABodyThatIsNotWellIsNo() {
    refused(new Run(), NO, "open");
    refused(body(0, 0), NO, "open");
    for (int reason = 2; reason <= 4; reason++) refused(notWell(reason), NO, "open");
  }

  static void promise13SixtySquaresAreNotFull() {
    Net net = new Net(SIXTY);
    due("squares", net.squares, 60);
    due("all squares have places", net.layAll(), true);
    Run x = net.cut();
    due(x, 61, "cuts");
    done(x, 59, "open");
    due(x, 60, "count", 2);
    due(x, 59, "count", 3);
    due(x, 1, "closed");
    due(x, 61, "cuts");
    refused(body(SIXTY), -22, "open");
  }

  static void promise13MoreThanSixtySquaresAreFull() {
    Run x = body(SIXTY_TWO);
    asked(x, 0, "well");
    asked(x, 62, "skin");
    refused(x, FULL, "open");
    refused(body(0xFFFF, 0xFFFF, 0xFFFF, 0xFFFF), FULL, "open");
  }

  static void promise13NoStandsAheadOfFull() {
    refused(body(0xA5A5, 0x5A5A, 0xA5A5, 0x5A5A), NO, "open");
    Run apart = body(SIXTY_TWO).with("cube", 3, 15, 1);
    asked(apart, 68, "skin");
    refused(apart, NO, "open");
  }

  static void promise13FullStandsAheadOfWhyItCannot() {
    // SQUARE 0 is cut off all around, and the others make rings.
    Run x = body(SIXTY_TWO);
    for (int k = 0; k < 4; k++) x.call("cut", 0, k, 1);
    refused(x, FULL, "open");
  }

  static void promise13NotAllHangTogetherIs21() {
    for (int[] e : new int[][] {{0, 0}, {0, 1}, {0, 3}, {1, 0}, {1, 2}}) refused(crossToBe().with("cut", e[0], e[1], 1), -21, "open");
    Run apart = body(1);
    for (int i = 0; i < 6; i++) for (int k = 0; k < 4; k++) apart.call("cut", i, k, 1);
    refused(apart, -21, "open");
  }

  static void promise13WhatHungTogetherAsItWasOpenedMayNotAnyMore() {
    Net net = new Net(SIXTY);
    net.layAll();
    for (int square : new int[] {0, 30, 59}) for (int k = 0; k < 4; k++) {
      Run x = net.cut().with("open");
      if (x.call("cut", square, k, 1) == 0) refused(x, -21, "open");
    }
  }

  static void promise13SeveralRowsToTwoPlacesIs22() {
    refused(body(1), -22, "open");
    for (int[] e : CROSS_CUTS) refused(crossToBe().with("cut", e[0], e[1], 0), -22, "open");
  }

  static void promise13TwoOnOnePlaceIs23() {
    for (int[][] cuts : new int[][][] {FIRST_OVERLAPS, LAST_OVERLAPS, OTHERS_OVERLAP}) refused(overlapToBe(cuts), -23, "open");
  }

  static void promise13TheFirstReasonIsTold() {
    // SQUARE 4 is cut off, and about a corner elsewhere there is a ring.
    refused(crossToBe().with("cut", 0, 1, 1).with("cut", 0, 2, 0), -21, "open");
    refused(overlapToBe(OTHERS_OVERLAP).with("cut", 0, 0, 1), -21, "open");
    refused(overlapToBe(OTHERS_OVERLAP).with("cut", 0, 1, 0), -22, "open");
  }

  static void promise13SpotsUpTo30AreLaid() {
    for (int direction = 0; direction < 4; direction++) {
      Net net = belts(direction, 11);
      due("the farthest in direction " + direction, net.farthest(direction % 2, direction < 2 ? 1 : -1), 30);
      Run x = net.cut();
      done(x, 57, "open");
      due(x, 58, "count", 2);
      due(x, 1, "closed");
    }
  }

  static void promise13SpotsBeyond30AreBad() {
    for (int direction = 0; direction < 4; direction++) {
      Net net = belts(direction, 12);
      due("the farthest in direction " + direction, net.farthest(direction % 2, direction < 2 ? 1 : -1), 31);
      refused(net.cut(), BAD, "open");
    }
  }

  static void promise13BadIsAskedLast() {
    int[] end = belts(0, 12).lastOfARow();
    refused(belts(0, 12).cut().with("cut", end[0], end[1], 1), -21, "open");
    refused(belts(0, 12).cut().with("cut", end[0], end[1] + 1 & 3, 0), -22, "open");
    Net net = belts(0, 12);
    due("one lies on another", net.layAnotherOn(3), true);
    due("the farthest", net.farthest(0, 1), 31);
    refused(net.cut(), -23, "open");
    refused(body(0x05), NO, "open");
  }

  static void promise13WhatWasInHandIsGone() {
    Run full = crossToBe();
    for (int i = 0; i < 60; i++) full.call("spot", i % 10 + 20, i / 10, 1);
    done(full, 5, "open");
    due("the SHEET", State.sheet(full), List.of(
      List.of(0, -1, 1, NO, 1), List.of(0, 0, 3, 1, 1), List.of(1, 0, 2, 1, NO), List.of(2, 0, 2, 1, NO), List.of(3, 0, 1, NO, NO), List.of(0, 1, 1, NO, NO)));
  }
}
