import java.util.Arrays;

/**
 * A carton maker's bench for skins of bodies made of cubes. The words in capitals are those of the
 * document (shared/DOC.md); "promise n" points to its numbered headings.
 */
public final class CubeCarton {
    public static final int NONE = -1, BAD = -3, NO = -4, FULL = -5, NOTHING = -11, INDEX = -13;

    private static final int SHELVES = 6;
    // The answers of open() that tell why a skin can't be opened lie below this number.
    private static final int CANNOT_OPEN = -20;
    // -1 is an answer with a meaning of its own, so HOLLOW and QUARTER -1 are told as 9.
    private static final int TOLD_MINUS_ONE = 9;
    private static final int TOLD_NO_CREASE = 5;
    private static final int TOLD_BELOW_ZERO = 1000;

    private final Bench bench;
    private final Memory memory;
    private final Sheet[] shelves;
    private final Skin hull;
    private final Layout layout;
    private final Links links;
    private final Folding folding;
    private final Wrapping wrapping;
    private final Form formInHand;
    private final Form formOnShelf;
    private final Sheet spare;

    /** Promise 1. All rows are made here, once, since what a run makes is counted. */
    public CubeCarton() {
        bench = new Bench();
        memory = new Memory();
        shelves = new Sheet[SHELVES];
        for (int k = 0; k < SHELVES; k++) {
            shelves[k] = new Sheet();
        }
        hull = new Skin();
        layout = new Layout();
        links = new Links();
        folding = new Folding();
        wrapping = new Wrapping();
        formInHand = new Form();
        formOnShelf = new Form();
        spare = new Sheet();
    }

    // ---- bodies

    /** Promise 2. */
    public int layer(int z, int bits) {
        if (!isLayer(z)) {
            return BAD;
        }
        memory.keep(bench);
        bench.body.put(z, bits);
        bodyHasChanged();
        return bench.body.cubesIn(z);
    }

    /** Promise 3. */
    public int lose(int z) {
        if (!isLayer(z)) {
            return BAD;
        }
        if (bench.body.misses(z)) {
            return NOTHING;
        }
        memory.keep(bench);
        int had = bench.body.cubesIn(z);
        bench.body.take(z);
        bodyHasChanged();
        return had;
    }

    /** Promise 4. */
    public int cube(int z, int place, int on) {
        if (!isLayer(z) || !isSwitch(on)) {
            return BAD;
        }
        if (bench.body.misses(z)) {
            return NOTHING;
        }
        if (!arePlaces(place, 1)) {
            return INDEX;
        }
        memory.keep(bench);
        int bits = bench.body.bitsOf(z);
        int bit = 1 << place;
        bench.body.put(z, on == 1 ? bits | bit : bits & ~bit);
        bodyHasChanged();
        return (bits & bit) != 0 ? 1 : 0;
    }

    /** Promise 5. */
    public int copy(int z, int place, int to, int at, int many) {
        if (!isLayer(z) || !isLayer(to)) {
            return BAD;
        }
        if (bench.body.misses(z) || bench.body.misses(to)) {
            return NOTHING;
        }
        if (!arePlaces(place, many) || !arePlaces(at, many)) {
            return INDEX;
        }
        memory.keep(bench);
        int row = (1 << many) - 1;
        int moved = (bench.body.bitsOf(z) >> place) & row;
        bench.body.put(to, (bench.body.bitsOf(to) & ~(row << at)) | (moved << at));
        bodyHasChanged();
        return many;
    }

    /** Promise 6. */
    public int box(int a, int b, int c) {
        if (!isLength(a) || !isLength(b) || !isLength(c)) {
            return BAD;
        }
        memory.keep(bench);
        int bits = 0;
        for (int y = 0; y < b; y++) {
            bits |= ((1 << a) - 1) << (4 * y);
        }
        for (int z = 0; z < Body.LAYERS; z++) {
            if (z < c) {
                bench.body.put(z, bits);
            } else {
                bench.body.take(z);
            }
        }
        bodyHasChanged();
        return a * b * c;
    }

    /** Promise 7. */
    public int well() {
        return hull.fault();
    }

    /** Promise 8. */
    public int skin() {
        return hull.size();
    }

    /** Promise 9. */
    public int square(int square, int what) {
        if (!isWithin(square, hull.size()) || !isWithin(what, 4)) {
            return BAD;
        }
        if (what == 3) {
            return hull.directionOf(square);
        }
        return Body.coordinate(hull.placeOf(square), what);
    }

    /** Promise 10. */
    public int across(int square, int side, int what) {
        if (!isWithin(square, hull.size()) || !isWithin(side, 4) || !isWithin(what, 4)) {
            return BAD;
        }
        if (hull.fault() != 0) {
            return NO;
        }
        switch (what) {
            case 0:
                return hull.squareAcross(square, side);
            case 1:
                return hull.sideAcross(square, side);
            case 2:
                return toldStep(hull.bendAcross(square, side));
            default:
                return bench.edges.isCut(square, side) ? 1 : 0;
        }
    }

    /** Promise 11. */
    public int cut(int square, int side, int on) {
        if (!isWithin(square, hull.size()) || !isWithin(side, 4) || !isSwitch(on)) {
            return BAD;
        }
        if (hull.fault() != 0) {
            return NO;
        }
        memory.keep(bench);
        int was = bench.edges.isCut(square, side) ? 1 : 0;
        bench.edges.mark(square, side, on == 1);
        bench.edges.mark(hull.squareAcross(square, side), hull.sideAcross(square, side), on == 1);
        return was;
    }

    /** Promise 12. */
    public int cuts() {
        // Each EDGE is marked at the two SIDES that lie on it.
        return bench.edges.marks() / 2;
    }

    /** Promise 13. */
    public int open() {
        if (hull.fault() != 0) {
            return NO;
        }
        if (hull.size() > Sheet.MOST) {
            return FULL;
        }
        int why = layout.lay(hull, bench.edges);
        if (why != 0) {
            return CANNOT_OPEN - why;
        }
        if (!layout.isWithinReach()) {
            return BAD;
        }
        memory.keep(bench);
        layout.drawOn(bench.sheet, hull, bench.edges);
        return bench.sheet.creaseCount();
    }

    // ---- the sheet

    /** Promise 14. */
    public int spot(int x, int y, int on) {
        if (!isOnTable(x) || !isOnTable(y) || !isSwitch(on)) {
            return BAD;
        }
        int there = bench.sheet.find(x, y);
        if (on == 1 && there < 0 && bench.sheet.size() >= Sheet.MOST) {
            return FULL;
        }
        memory.keep(bench);
        if (on == 1 && there < 0) {
            bench.sheet.add(x, y);
        }
        if (on == 0 && there >= 0) {
            bench.sheet.remove(there);
        }
        return there >= 0 ? 1 : 0;
    }

    /** Promise 15. */
    public int crease(int x, int y, int direction, int quarter) {
        int value = creaseMeant(quarter);
        if (!isOnTable(x) || !isOnTable(y) || !isWithin(direction, 4) || value < 0) {
            return BAD;
        }
        int here = bench.sheet.find(x, y);
        int there = here < 0 ? -1 : bench.sheet.beside(here, direction);
        if (here < 0 || there < 0) {
            return NO;
        }
        memory.keep(bench);
        int was = bench.sheet.creaseAt(here, direction);
        bench.sheet.join(here, there, direction, value);
        return was == Sheet.NO_CREASE ? TOLD_NO_CREASE : toldStep(was - Sheet.LEVEL);
    }

    /** Promise 16. */
    public int turn(int how) {
        if (!isSwitch(how)) {
            return BAD;
        }
        memory.keep(bench);
        spare.become(bench.sheet);
        bench.sheet.becomeTurned(spare, how == 0 ? 1 : 0, how == 1);
        return 0;
    }

    /** Promise 17. */
    public int clear() {
        memory.keep(bench);
        int had = bench.sheet.size();
        bench.sheet.drop();
        return had;
    }

    /** Promise 18. */
    public int told(int spot, int what) {
        if (!isWithin(spot, bench.sheet.size()) || !isWithin(what, 3)) {
            return BAD;
        }
        switch (what) {
            case 0:
                return bench.sheet.xOf(spot);
            case 1:
                return bench.sheet.yOf(spot);
            default:
                return bench.sheet.creasesOf(spot);
        }
    }

    /** Promise 19. */
    public int fold() {
        return folding.run(bench.sheet, links);
    }

    /** Promise 20. */
    public int where(int spot, int what) {
        if (!isWithin(spot, bench.sheet.size()) || !isWithin(what, 5)) {
            return BAD;
        }
        if (folding.run(bench.sheet, links) != 0) {
            return NO;
        }
        int answer = folding.poseOf(spot, what);
        return answer < 0 ? answer + TOLD_BELOW_ZERO : answer;
    }

    /** Promise 21. */
    public int closed() {
        return folding.run(bench.sheet, links) == 0 && folding.leavesNoGap() ? 1 : 0;
    }

    /** Promise 22. */
    public int form(int i) {
        if (i < 0) {
            return BAD;
        }
        formInHand.take(bench.sheet);
        return i < formInHand.length() ? formInHand.number(i) : NONE;
    }

    /** Promise 23. */
    public int same() {
        formInHand.take(bench.sheet);
        return formInHand.timesWritten();
    }

    /** Promise 24. */
    public int shelve(int k) {
        if (!isWithin(k, SHELVES)) {
            return BAD;
        }
        shelves[k].become(bench.sheet);
        return bench.sheet.size();
    }

    /** Promise 25. */
    public int alike(int k) {
        if (!isWithin(k, SHELVES)) {
            return BAD;
        }
        formInHand.take(bench.sheet);
        formOnShelf.take(shelves[k]);
        return formInHand.matches(formOnShelf) ? 1 : 0;
    }

    /** Promise 26. */
    public int wraps() {
        if (hull.fault() != 0) {
            return NO;
        }
        wrapping.seek(bench.sheet, links, hull);
        return wrapping.ways();
    }

    /** Promise 27. */
    public int way(int i, int what) {
        if (i < 0 || !isWithin(what, 3)) {
            return BAD;
        }
        if (hull.fault() != 0) {
            return NO;
        }
        wrapping.seek(bench.sheet, links, hull);
        if (i >= wrapping.ways()) {
            return NONE;
        }
        switch (what) {
            case 0:
                return wrapping.squareOf(i);
            case 1:
                return wrapping.turnOf(i);
            default:
                return wrapping.isTurnedOver(i) ? 1 : 0;
        }
    }

    /** Promise 28. */
    public int undo() {
        if (memory.size() == 0) {
            return NO;
        }
        memory.giveBack(bench);
        hull.take(bench.body);
        return memory.size();
    }

    /** Promise 29. */
    public int count(int what) {
        switch (what) {
            case 0:
                return bench.body.cubes();
            case 1:
                return bench.body.layersThere();
            case 2:
                return bench.sheet.size();
            case 3:
                return bench.sheet.creaseCount();
            case 4:
                return memory.size();
            default:
                return BAD;
        }
    }

    private void bodyHasChanged() {
        bench.edges.mend();
        hull.take(bench.body);
    }

    private static boolean isWithin(int number, int bound) {
        return number >= 0 && number < bound;
    }

    private static boolean isLayer(int z) {
        return isWithin(z, Body.LAYERS);
    }

    private static boolean isSwitch(int on) {
        return on == 0 || on == 1;
    }

    private static boolean isLength(int side) {
        return side >= 1 && side <= 4;
    }

    private static boolean isOnTable(int coordinate) {
        return coordinate >= -Sheet.REACH && coordinate <= Sheet.REACH;
    }

    /** The bound is taken from the right-hand side, so that no sum can wrap around. */
    private static boolean arePlaces(int first, int many) {
        return many >= 0 && first >= 0 && first <= Body.LAYER_PLACES - many;
    }

    private static int toldStep(int step) {
        return step < 0 ? TOLD_MINUS_ONE : step;
    }

    /** How a sheet holds the CREASE that a caller's number means; -1: the number means none. */
    private static int creaseMeant(int quarter) {
        switch (quarter) {
            case TOLD_NO_CREASE:
                return Sheet.NO_CREASE;
            case TOLD_MINUS_ONE:
                return Sheet.LEVEL - 1;
            case 0:
                return Sheet.LEVEL;
            case 1:
                return Sheet.LEVEL + 1;
            default:
                return -1;
        }
    }

    /**
     * The LAYERS, and the DIRECTIONS. A place is numbered 16 * z + 4 * y + x, and a set of places is
     * held as the bits of a long by these numbers.
     */
    private static final class Body {
        static final int LAYERS = 4;
        static final int LAYER_PLACES = 16;
        static final int PLACES = 64;
        static final int DIRECTIONS = 6;

        private static final int OUTSIDE = -1;
        private static final int MISSING = -1;
        private static final int ALL_BITS = 0xFFFF;
        private static final long X_LEAST = 0x1111111111111111L, X_MOST = 0x8888888888888888L;
        private static final long Y_LEAST = 0x000F000F000F000FL, Y_MOST = 0xF000F000F000F000L;
        private static final long Z_LEAST = 0x000000000000FFFFL, Z_MOST = 0xFFFF000000000000L;

        // About the corner at (1, 1, 1): the 8 places that have it, and the 4 that have each of
        // the 6 edges that end there.
        private static final long[] AROUND_CORNER = {
            0x330033L, 0x110011L, 0x220022L, 0x030003L, 0x300030L, 0x000033L, 0x330000L,
        };

        private final int[] layers;

        Body() {
            layers = new int[LAYERS];
            Arrays.fill(layers, MISSING);
        }

        static int coordinate(int place, int axis) {
            return (place >> (2 * axis)) & 3;
        }

        static int against(int direction) {
            return direction ^ 1;
        }

        static int step(int direction, int axis) {
            if (direction >> 1 != axis) {
                return 0;
            }
            return (direction & 1) == 0 ? 1 : -1;
        }

        /** The place one on; OUTSIDE stays OUTSIDE, so two steps along two axes may be chained. */
        static int beyond(int place, int direction) {
            if (place < 0) {
                return OUTSIDE;
            }
            int axis = direction >> 1;
            int step = step(direction, axis);
            int moved = coordinate(place, axis) + step;
            if (moved < 0 || moved > 3) {
                return OUTSIDE;
            }
            return place + step * (1 << (2 * axis));
        }

        static boolean has(long cells, int place) {
            return place >= 0 && (cells >> place & 1) == 1;
        }

        void become(Body other) {
            System.arraycopy(other.layers, 0, layers, 0, LAYERS);
        }

        boolean misses(int z) {
            return layers[z] == MISSING;
        }

        int bitsOf(int z) {
            return misses(z) ? 0 : layers[z];
        }

        void put(int z, int bits) {
            layers[z] = bits & ALL_BITS;
        }

        void take(int z) {
            layers[z] = MISSING;
        }

        int cubesIn(int z) {
            return Integer.bitCount(bitsOf(z));
        }

        int cubes() {
            return Long.bitCount(cells());
        }

        int layersThere() {
            int there = 0;
            for (int z = 0; z < LAYERS; z++) {
                there += misses(z) ? 0 : 1;
            }
            return there;
        }

        /** The places with CUBES. */
        long cells() {
            long cells = 0;
            for (int z = 0; z < LAYERS; z++) {
                cells |= (long) bitsOf(z) << (LAYER_PLACES * z);
            }
            return cells;
        }

        /** The number of promise 7 for a BODY with CUBES there: 0 if it is WELL. */
        static int faultOf(long cells) {
            if (cells == 0) {
                return 1;
            }
            if (!hangs(cells)) {
                return 2;
            }
            if (!meetsBySquares(cells)) {
                return 3;
            }
            // All that is outside of the LAYERS hangs together, and touches each place on the rim.
            long rim = X_LEAST | X_MOST | Y_LEAST | Y_MOST | Z_LEAST | Z_MOST;
            return flood(~cells & rim, ~cells) == ~cells ? 0 : 4;
        }

        /** Corners on the rim need no look: the CUBES at one have an edge in common that gets it. */
        private static boolean meetsBySquares(long cells) {
            for (int corner = 0; corner < 27; corner++) {
                int least = 16 * (corner / 9) + 4 * (corner / 3 % 3) + corner % 3;
                for (long around : AROUND_CORNER) {
                    if (!hangs(cells & (around << least))) {
                        return false;
                    }
                }
            }
            return true;
        }

        private static boolean hangs(long cells) {
            return flood(cells & -cells, cells) == cells;
        }

        /** What hangs together with the seed; no way within 64 places has more than 63 steps. */
        private static long flood(long seed, long within) {
            long reached = seed & within;
            for (int steps = 0; steps < PLACES; steps++) {
                long alongX = (reached & ~X_MOST) << 1 | (reached & ~X_LEAST) >>> 1;
                long alongY = (reached & ~Y_MOST) << 4 | (reached & ~Y_LEAST) >>> 4;
                long alongZ = reached << 16 | reached >>> 16;
                long grown = (reached | alongX | alongY | alongZ) & within;
                if (grown == reached) {
                    break;
                }
                reached = grown;
            }
            return reached;
        }
    }

    /** THE SKIN of a BODY, worked out anew as the BODY changes. */
    private static final class Skin {
        // The 4 times 4 times 4 places have 3 * 5 * 16 squares in all, inner ones too.
        static final int MOST = 240;

        // Four for each DIRECTION of a SQUARE: where its SIDES 0 .. 3 look.
        private static final int[] LOOKS = {
            2, 4, 3, 5, 2, 5, 3, 4,
            4, 0, 5, 1, 4, 1, 5, 0,
            0, 2, 1, 3, 0, 3, 1, 2,
        };

        private final int[] places;
        private final int[] directions;
        private final int[] numbers;
        private final int[] leads;
        private final int[] bends;
        private long cells;
        private int squares;
        private int fault;

        Skin() {
            places = new int[MOST];
            directions = new int[MOST];
            numbers = new int[Body.PLACES * Body.DIRECTIONS];
            leads = new int[4 * MOST];
            bends = new int[4 * MOST];
            cells = 0;
            squares = 0;
            fault = Body.faultOf(cells);
        }

        void take(Body body) {
            if (body.cells() == cells) {
                return;
            }
            cells = body.cells();
            fault = Body.faultOf(cells);
            numberSquares();
            for (int square = 0; square < squares; square++) {
                for (int side = 0; side < 4; side++) {
                    lead(square, side);
                }
            }
        }

        int fault() {
            return fault;
        }

        int size() {
            return squares;
        }

        int placeOf(int square) {
            return places[square];
        }

        int directionOf(int square) {
            return directions[square];
        }

        int squareAcross(int square, int side) {
            return leads[4 * square + side] >> 2;
        }

        int sideAcross(int square, int side) {
            return leads[4 * square + side] & 3;
        }

        /** 1 SHARP, 0 FLAT, -1 HOLLOW. */
        int bendAcross(int square, int side) {
            return bends[4 * square + side];
        }

        private void numberSquares() {
            squares = 0;
            for (int place = 0; place < Body.PLACES; place++) {
                for (int direction = 0; direction < Body.DIRECTIONS; direction++) {
                    boolean outer = Body.has(cells, place)
                        && !Body.has(cells, Body.beyond(place, direction));
                    if (outer && squares < MOST) {
                        numbers[Body.DIRECTIONS * place + direction] = squares;
                        places[squares] = place;
                        directions[squares] = direction;
                        squares++;
                    }
                }
            }
        }

        private void lead(int square, int side) {
            int place = places[square];
            int direction = directions[square];
            int toward = LOOKS[4 * direction + side];
            int next = Body.beyond(place, toward);
            int above = Body.beyond(next, direction);
            if (Body.has(cells, above)) {
                note(square, side, -1, above, Body.against(toward), Body.against(direction));
            } else if (Body.has(cells, next)) {
                note(square, side, 0, next, direction, Body.against(toward));
            } else {
                note(square, side, 1, place, toward, direction);
            }
        }

        /** The other SQUARE's SIDE is given by the DIRECTION in which it looks. */
        private void note(int square, int side, int bend, int place, int direction, int looking) {
            int other = numbers[Body.DIRECTIONS * place + direction];
            leads[4 * square + side] = 4 * other + sideLooking(direction, looking);
            bends[4 * square + side] = bend;
        }

        private static int sideLooking(int direction, int toward) {
            for (int side = 0; side < 3; side++) {
                if (LOOKS[4 * direction + side] == toward) {
                    return side;
                }
            }
            return 3;
        }
    }

    /** Which SIDES of the SQUARES lie on EDGES that are cut. */
    private static final class Edges {
        private final int[] sides;

        Edges() {
            sides = new int[Skin.MOST];
        }

        void become(Edges other) {
            System.arraycopy(other.sides, 0, sides, 0, Skin.MOST);
        }

        void mend() {
            Arrays.fill(sides, 0);
        }

        boolean isCut(int square, int side) {
            return (sides[square] >> side & 1) == 1;
        }

        void mark(int square, int side, boolean isCut) {
            int bit = 1 << side;
            sides[square] = isCut ? sides[square] | bit : sides[square] & ~bit;
        }

        int marks() {
            int marks = 0;
            for (int square = 0; square < Skin.MOST; square++) {
                marks += Integer.bitCount(sides[square]);
            }
            return marks;
        }
    }

    /** A SHEET: its SPOTS by y, then by x, each with what is to its four sides. */
    private static final class Sheet {
        static final int MOST = 60;
        static final int REACH = 30;
        // A CREASE is held as THE FORM writes it: 2 and the QUARTER, or 0.
        static final int NO_CREASE = 0;
        static final int LEVEL = 2;

        private static final int[] STEP_X = {1, 0, -1, 0};
        private static final int[] STEP_Y = {0, 1, 0, -1};

        private final int[] xs;
        private final int[] ys;
        private final int[] creases;
        private int spots;

        Sheet() {
            xs = new int[MOST];
            ys = new int[MOST];
            creases = new int[4 * MOST];
            spots = 0;
        }

        static int stepX(int direction) {
            return STEP_X[direction & 3];
        }

        static int stepY(int direction) {
            return STEP_Y[direction & 3];
        }

        /** Where a direction points if x becomes - x. */
        static int mirrored(int direction) {
            return (2 - direction) & 3;
        }

        int size() {
            return spots;
        }

        int xOf(int spot) {
            return xs[spot];
        }

        int yOf(int spot) {
            return ys[spot];
        }

        int creaseAt(int spot, int direction) {
            return creases[4 * spot + direction];
        }

        int creasesOf(int spot) {
            int many = 0;
            for (int direction = 0; direction < 4; direction++) {
                many += creaseAt(spot, direction) == NO_CREASE ? 0 : 1;
            }
            return many;
        }

        int creaseCount() {
            int ends = 0;
            for (int spot = 0; spot < spots; spot++) {
                ends += creasesOf(spot);
            }
            return ends / 2;
        }

        void drop() {
            spots = 0;
        }

        void become(Sheet other) {
            spots = other.spots;
            System.arraycopy(other.xs, 0, xs, 0, spots);
            System.arraycopy(other.ys, 0, ys, 0, spots);
            System.arraycopy(other.creases, 0, creases, 0, 4 * spots);
        }

        /** The SPOT at (x, y), or -1. */
        int find(int x, int y) {
            int at = firstNotBefore(x, y);
            return at < spots && xs[at] == x && ys[at] == y ? at : -1;
        }

        /** The SPOT right beside, with or without a CREASE, or -1. */
        int beside(int spot, int direction) {
            return find(xs[spot] + stepX(direction), ys[spot] + stepY(direction));
        }

        private int firstNotBefore(int x, int y) {
            for (int spot = 0; spot < spots; spot++) {
                if (ys[spot] > y || (ys[spot] == y && xs[spot] >= x)) {
                    return spot;
                }
            }
            return spots;
        }

        /** Adds a SPOT where there is none, without CREASES; its number, or -1 if the SHEET is full. */
        int add(int x, int y) {
            if (spots >= MOST) {
                return -1;
            }
            int at = firstNotBefore(x, y);
            shift(at, at + 1, spots - at);
            spots++;
            xs[at] = x;
            ys[at] = y;
            for (int direction = 0; direction < 4; direction++) {
                creases[4 * at + direction] = NO_CREASE;
            }
            return at;
        }

        void remove(int spot) {
            for (int direction = 0; direction < 4; direction++) {
                int other = beside(spot, direction);
                if (other >= 0) {
                    join(spot, other, direction, NO_CREASE);
                }
            }
            shift(spot + 1, spot, spots - spot - 1);
            spots--;
        }

        private void shift(int from, int to, int many) {
            System.arraycopy(xs, from, xs, to, many);
            System.arraycopy(ys, from, ys, to, many);
            System.arraycopy(creases, 4 * from, creases, 4 * to, 4 * many);
        }

        void join(int spot, int other, int direction, int crease) {
            creases[4 * spot + direction] = crease;
            creases[4 * other + ((direction + 2) & 3)] = crease;
        }

        void becomeTurned(Sheet other, int quarters, boolean over) {
            spots = 0;
            for (int spot = 0; spot < other.spots; spot++) {
                int at = add(other.turnedX(spot, quarters, over), other.turnedY(spot, quarters, over));
                for (int direction = 0; at >= 0 && direction < 4; direction++) {
                    creases[4 * at + direction] = other.turnedCrease(spot, direction, quarters, over);
                }
            }
        }

        /** What x becomes if the SHEET is turned over, if so, and then turned by quarters. */
        int turnedX(int spot, int quarters, boolean over) {
            int x = over ? -xs[spot] : xs[spot];
            return x * stepX(quarters) - ys[spot] * stepY(quarters);
        }

        int turnedY(int spot, int quarters, boolean over) {
            int x = over ? -xs[spot] : xs[spot];
            return x * stepY(quarters) + ys[spot] * stepX(quarters);
        }

        /** The CREASE that comes to look in the direction. */
        int turnedCrease(int spot, int direction, int quarters, boolean over) {
            int before = (direction - quarters) & 3;
            return creases[4 * spot + (over ? mirrored(before) : before)];
        }
    }

    /** All that undo() brings back. */
    private static final class Bench {
        final Body body;
        final Edges edges;
        final Sheet sheet;

        Bench() {
            body = new Body();
            edges = new Edges();
            sheet = new Sheet();
        }

        void become(Bench other) {
            body.become(other.body);
            edges.become(other.edges);
            sheet.become(other.sheet);
        }
    }

    /** How the bench was ahead of each of the latest CHANGES, in a ring. */
    private static final class Memory {
        private static final int MOST = 8;

        private final Bench[] ring;
        private int oldest;
        private int kept;

        Memory() {
            ring = new Bench[MOST];
            for (int i = 0; i < MOST; i++) {
                ring[i] = new Bench();
            }
            oldest = 0;
            kept = 0;
        }

        int size() {
            return kept;
        }

        void keep(Bench bench) {
            ring[(oldest + kept) % MOST].become(bench);
            if (kept < MOST) {
                kept++;
            } else {
                oldest = (oldest + 1) % MOST;
            }
        }

        void giveBack(Bench bench) {
            if (kept > 0) {
                kept--;
                bench.become(ring[(oldest + kept) % MOST]);
            }
        }
    }

    /** Where the SQUARES come to lie as THE SKIN is opened. */
    private static final class Layout {
        private static final int NOT_LAID = -1;

        private final int[] xs;
        private final int[] ys;
        private final int[] turns;
        private final int[] order;
        private int squares;
        private int laid;

        Layout() {
            xs = new int[Sheet.MOST];
            ys = new int[Sheet.MOST];
            turns = new int[Sheet.MOST];
            order = new int[Sheet.MOST];
            squares = 0;
            laid = 0;
        }

        /** Why it can't be opened: the number of Terms 2, or 0. For skins of at most Sheet.MOST SQUARES. */
        int lay(Skin skin, Edges edges) {
            squares = skin.size();
            layAll(skin, edges);
            if (laid < squares) {
                return 1;
            }
            if (!agrees(skin, edges)) {
                return 2;
            }
            return overlaps() ? 3 : 0;
        }

        boolean isWithinReach() {
            for (int square = 0; square < squares; square++) {
                if (Math.abs(xs[square]) > Sheet.REACH || Math.abs(ys[square]) > Sheet.REACH) {
                    return false;
                }
            }
            return true;
        }

        /** To be asked only of what could be laid. */
        void drawOn(Sheet sheet, Skin skin, Edges edges) {
            sheet.drop();
            for (int square = 0; square < squares; square++) {
                sheet.add(xs[square], ys[square]);
            }
            for (int square = 0; square < squares; square++) {
                int spot = sheet.find(xs[square], ys[square]);
                for (int side = 0; side < 4; side++) {
                    int direction = (side + turns[square]) & 3;
                    int other = spot < 0 ? -1 : sheet.beside(spot, direction);
                    if (other >= 0 && !edges.isCut(square, side)) {
                        int crease = Sheet.LEVEL + skin.bendAcross(square, side);
                        sheet.join(spot, other, direction, crease);
                    }
                }
            }
        }

        private void layAll(Skin skin, Edges edges) {
            Arrays.fill(turns, NOT_LAID);
            laid = 0;
            layOne(0, 0, 0, 0);
            for (int i = 0; i < squares && i < laid; i++) {
                int square = order[i];
                for (int side = 0; side < 4; side++) {
                    int other = skin.squareAcross(square, side);
                    if (!edges.isCut(square, side) && turns[other] == NOT_LAID) {
                        int direction = (side + turns[square]) & 3;
                        layOne(other, xs[square] + Sheet.stepX(direction),
                            ys[square] + Sheet.stepY(direction), turnBeside(skin, square, side));
                    }
                }
            }
        }

        private void layOne(int square, int x, int y, int turn) {
            xs[square] = x;
            ys[square] = y;
            turns[square] = turn;
            order[laid] = square;
            laid++;
        }

        /** The TURN by which the other SQUARE's SIDE looks back at this one. */
        private int turnBeside(Skin skin, int square, int side) {
            return (side + turns[square] + 2 - skin.sideAcross(square, side)) & 3;
        }

        private boolean agrees(Skin skin, Edges edges) {
            for (int square = 0; square < squares; square++) {
                for (int side = 0; side < 4; side++) {
                    if (!edges.isCut(square, side) && !liesBeside(skin, square, side)) {
                        return false;
                    }
                }
            }
            return true;
        }

        private boolean liesBeside(Skin skin, int square, int side) {
            int other = skin.squareAcross(square, side);
            int direction = (side + turns[square]) & 3;
            return xs[other] == xs[square] + Sheet.stepX(direction)
                && ys[other] == ys[square] + Sheet.stepY(direction)
                && turns[other] == turnBeside(skin, square, side);
        }

        private boolean overlaps() {
            for (int square = 0; square < squares; square++) {
                for (int other = 0; other < square; other++) {
                    if (xs[square] == xs[other] && ys[square] == ys[other]) {
                        return true;
                    }
                }
            }
            return false;
        }
    }

    /** What is across the CREASES of a SHEET, and a row of SPOTS that leads from SPOT 0 to all others. */
    private static final class Links {
        private static final int NOWHERE = -1;

        private final int[] nexts;
        private final int[] order;
        private final int[] steps;
        private int spots;
        private int reached;

        Links() {
            nexts = new int[4 * Sheet.MOST];
            order = new int[Sheet.MOST];
            steps = new int[Sheet.MOST];
            spots = 0;
            reached = 0;
        }

        void trace(Sheet sheet) {
            spots = sheet.size();
            for (int spot = 0; spot < spots; spot++) {
                for (int direction = 0; direction < 4; direction++) {
                    boolean bound = sheet.creaseAt(spot, direction) != Sheet.NO_CREASE;
                    nexts[4 * spot + direction] = bound ? sheet.beside(spot, direction) : NOWHERE;
                }
            }
            reachAll();
        }

        private void reachAll() {
            Arrays.fill(steps, NOWHERE);
            reached = Math.min(spots, 1);
            order[0] = 0;
            for (int i = 0; i < spots && i < reached; i++) {
                for (int direction = 0; direction < 4; direction++) {
                    int step = 4 * order[i] + direction;
                    int other = nexts[step];
                    if (other > 0 && steps[other] == NOWHERE) {
                        steps[other] = step;
                        order[reached] = other;
                        reached++;
                    }
                }
            }
        }

        boolean hangTogether() {
            return spots > 0 && reached == spots;
        }

        /** The SPOT there, or -1 without CREASE. */
        int next(int spot, int direction) {
            return nexts[4 * spot + direction];
        }

        /** Number i of the row, SPOT 0 first; each comes behind the one from which it is reached. */
        int inOrder(int i) {
            return order[i];
        }

        /** For all SPOTS but SPOT 0, if they hang together. */
        int reachedFrom(int spot) {
            return steps[spot] >> 2;
        }

        int reachedBy(int spot) {
            return steps[spot] & 3;
        }
    }

    /** How the SPOTS of a SHEET lie once it is FOLDED. */
    private static final class Folding {
        // The numbers of a pose; the first five are in the order in which where() tells them.
        private static final int FACE = 3;
        private static final int RIGHT = 4;
        private static final int UP = 5;
        private static final int POSE = 6;

        private final int[] poses;
        private final int[] beside;
        private final int[] rims;
        private int spots;

        Folding() {
            poses = new int[POSE * Sheet.MOST];
            beside = new int[POSE];
            rims = new int[4 * Sheet.MOST];
            spots = 0;
            // SPOT 0 lies so in each SHEET: its pose is never written again.
            poses[FACE] = 4;
            poses[RIGHT] = 0;
            poses[UP] = 2;
        }

        /** Why it can't be folded: the number of Terms 3, or 0. */
        int run(Sheet sheet, Links links) {
            links.trace(sheet);
            spots = sheet.size();
            if (!links.hangTogether()) {
                return 1;
            }
            layAll(sheet, links);
            if (!agrees(sheet, links)) {
                return 2;
            }
            return overlaps() ? 3 : 0;
        }

        int poseOf(int spot, int what) {
            return poses[POSE * spot + what];
        }

        private void layAll(Sheet sheet, Links links) {
            for (int i = 1; i < spots; i++) {
                int spot = links.inOrder(i);
                int from = links.reachedFrom(spot);
                int direction = links.reachedBy(spot);
                cross(from, direction, sheet.creaseAt(from, direction) - Sheet.LEVEL);
                System.arraycopy(beside, 0, poses, POSE * spot, POSE);
            }
        }

        /** The DIRECTION in which a SPOT's side looks. */
        private int heading(int spot, int direction) {
            int forth = poseOf(spot, (direction & 1) == 0 ? RIGHT : UP);
            return direction < 2 ? forth : Body.against(forth);
        }

        /** Leaves in beside how the SPOT across a CREASE has to lie. */
        private void cross(int spot, int direction, int quarter) {
            int face = poseOf(spot, FACE);
            int toward = heading(spot, direction);
            int onward = toward;
            int faceNext = face;
            if (quarter == 1) {
                onward = Body.against(face);
                faceNext = toward;
            } else if (quarter == -1) {
                onward = face;
                faceNext = Body.against(toward);
            }
            System.arraycopy(poses, POSE * spot, beside, 0, POSE);
            for (int axis = 0; axis < 3; axis++) {
                beside[axis] += Body.step(toward, axis) + Body.step(onward, axis);
            }
            beside[FACE] = faceNext;
            beside[(direction & 1) == 0 ? RIGHT : UP] = direction < 2 ? onward : Body.against(onward);
        }

        private boolean agrees(Sheet sheet, Links links) {
            for (int spot = 0; spot < spots; spot++) {
                for (int direction = 0; direction < 2; direction++) {
                    int other = links.next(spot, direction);
                    if (other >= 0) {
                        cross(spot, direction, sheet.creaseAt(spot, direction) - Sheet.LEVEL);
                        if (!liesBeside(other)) {
                            return false;
                        }
                    }
                }
            }
            return true;
        }

        private boolean liesBeside(int spot) {
            for (int what = 0; what < POSE; what++) {
                if (poseOf(spot, what) != beside[what]) {
                    return false;
                }
            }
            return true;
        }

        private boolean overlaps() {
            for (int spot = 0; spot < spots; spot++) {
                for (int other = 0; other < spot; other++) {
                    if (poseOf(spot, 0) == poseOf(other, 0) && poseOf(spot, 1) == poseOf(other, 1)
                        && poseOf(spot, 2) == poseOf(other, 2)) {
                        return true;
                    }
                }
            }
            return false;
        }

        /** Whether a SHEET that could be folded is CLOSED. */
        boolean leavesNoGap() {
            for (int spot = 0; spot < spots; spot++) {
                for (int direction = 0; direction < 4; direction++) {
                    rims[4 * spot + direction] = rim(spot, direction);
                }
            }
            for (int i = 0; i < 4 * spots; i++) {
                // No two sides of one SPOT are the same, so others that are belong to other SPOTS.
                if (timesAmongRims(rims[i]) != 2) {
                    return false;
                }
            }
            return true;
        }

        /** One number for the middle of a side and the axis along which it runs. */
        private int rim(int spot, int direction) {
            int toward = heading(spot, direction);
            int number = 0;
            for (int axis = 0; axis < 3; axis++) {
                // 59 steps of 2 and the last half stay within -119 .. 119.
                number = 256 * number + 128 + poseOf(spot, axis) + Body.step(toward, axis);
            }
            return 3 * number + (heading(spot, (direction + 1) & 3) >> 1);
        }

        private int timesAmongRims(int rim) {
            int times = 0;
            for (int i = 0; i < 4 * spots; i++) {
                times += rims[i] == rim ? 1 : 0;
            }
            return times;
        }
    }

    /** THE FORM of a SHEET. */
    private static final class Form {
        private static final int NUMBERS = 4;

        private final int[] least;
        private final int[] row;
        private final int[] keys;
        private int size;
        private int times;

        Form() {
            least = new int[NUMBERS * Sheet.MOST];
            row = new int[NUMBERS * Sheet.MOST];
            keys = new int[Sheet.MOST];
            size = 0;
            times = 0;
        }

        int length() {
            return size;
        }

        int number(int i) {
            return least[i];
        }

        /** How many of the eight are written so. */
        int timesWritten() {
            return times;
        }

        boolean matches(Form other) {
            if (size != other.size) {
                return false;
            }
            return compare(least, other.least) == 0;
        }

        void take(Sheet sheet) {
            size = NUMBERS * sheet.size();
            times = 0;
            for (int how = 0; how < 8; how++) {
                write(sheet, how & 3, how >= 4);
                int order = times == 0 ? -1 : compare(row, least);
                if (order < 0) {
                    System.arraycopy(row, 0, least, 0, size);
                    times = 1;
                } else if (order == 0) {
                    times++;
                }
            }
        }

        private int compare(int[] a, int[] b) {
            for (int i = 0; i < size; i++) {
                if (a[i] != b[i]) {
                    return a[i] < b[i] ? -1 : 1;
                }
            }
            return 0;
        }

        private void write(Sheet sheet, int quarters, boolean over) {
            int leastX = Sheet.REACH;
            int leastY = Sheet.REACH;
            for (int spot = 0; spot < sheet.size(); spot++) {
                leastX = Math.min(leastX, sheet.turnedX(spot, quarters, over));
                leastY = Math.min(leastY, sheet.turnedY(spot, quarters, over));
            }
            for (int spot = 0; spot < sheet.size(); spot++) {
                int x = sheet.turnedX(spot, quarters, over) - leastX;
                int y = sheet.turnedY(spot, quarters, over) - leastY;
                // Six bits each, y above x above the SPOT: the keys' order is that of y, x.
                insertKey(spot, (y << 12) | (x << 6) | spot);
            }
            for (int i = 0; i < sheet.size(); i++) {
                int spot = keys[i] & 63;
                row[NUMBERS * i] = keys[i] >> 12;
                row[NUMBERS * i + 1] = (keys[i] >> 6) & 63;
                row[NUMBERS * i + 2] = sheet.turnedCrease(spot, 0, quarters, over);
                row[NUMBERS * i + 3] = sheet.turnedCrease(spot, 1, quarters, over);
            }
        }

        /** Puts a key in order among the many that are there already. */
        private void insertKey(int many, int key) {
            int at = many;
            while (at > 0 && keys[at - 1] > key) {
                keys[at] = keys[at - 1];
                at--;
            }
            keys[at] = key;
        }
    }

    /** All WAYS in which a SHEET WRAPS a BODY. */
    private static final class Wrapping {
        private static final int FREE = -1;

        private final int[] squares;
        private final int[] turns;
        private final int[] spotOn;
        private final int[] found;
        private int many;

        Wrapping() {
            squares = new int[Sheet.MOST];
            turns = new int[Sheet.MOST];
            spotOn = new int[Sheet.MOST];
            // Turned over or not, four TURNS, at most as many SQUARES as SPOTS.
            found = new int[8 * Sheet.MOST];
            many = 0;
        }

        int ways() {
            return many;
        }

        int squareOf(int i) {
            return (found[i] >> 2) % Sheet.MOST;
        }

        int turnOf(int i) {
            return found[i] & 3;
        }

        boolean isTurnedOver(int i) {
            return found[i] >= 4 * Sheet.MOST;
        }

        void seek(Sheet sheet, Links links, Skin skin) {
            many = 0;
            if (sheet.size() != skin.size()) {
                return;
            }
            links.trace(sheet);
            if (!links.hangTogether()) {
                return;
            }
            for (int over = 0; over < 2; over++) {
                for (int start = 0; start < 4 * sheet.size(); start++) {
                    if (fits(sheet.size(), links, skin, start, over == 1)) {
                        found[many] = 4 * Sheet.MOST * over + start;
                        many++;
                    }
                }
            }
        }

        /** Start: 4 * SQUARE + TURN of SPOT 0. */
        private boolean fits(int spots, Links links, Skin skin, int start, boolean over) {
            Arrays.fill(spotOn, FREE);
            lay(0, start);
            for (int i = 1; i < spots; i++) {
                int spot = links.inOrder(i);
                int lies = landing(skin, links.reachedFrom(spot), links.reachedBy(spot), over);
                if (spotOn[lies >> 2] != FREE) {
                    return false;
                }
                lay(spot, lies);
            }
            for (int spot = 0; spot < spots; spot++) {
                for (int direction = 0; direction < 2; direction++) {
                    int other = links.next(spot, direction);
                    if (other >= 0
                        && landing(skin, spot, direction, over) != 4 * squares[other] + turns[other]) {
                        return false;
                    }
                }
            }
            return true;
        }

        private void lay(int spot, int lies) {
            squares[spot] = lies >> 2;
            turns[spot] = lies & 3;
            spotOn[lies >> 2] = spot;
        }

        /** 4 * SQUARE + TURN of what lies beside a SPOT, in a direction of the SHEET as it is in hand. */
        private int landing(Skin skin, int spot, int direction, boolean over) {
            int looking = over ? Sheet.mirrored(direction) : direction;
            int side = (looking - turns[spot]) & 3;
            int turn = (looking + 2 - skin.sideAcross(squares[spot], side)) & 3;
            return 4 * skin.squareAcross(squares[spot], side) + turn;
        }
    }
}
