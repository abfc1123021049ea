/** The boundary cases of promises 15 to 20, a test for each sentence that names one. */
public final class EdgesWaysTest {
    private static final int NONE = Edge.NONE, BAD = Edge.BAD;
    private static final long NO = Edge.NO;

    public static void main(String[] args) {
        walkBounds();
        walkStanding();
        walkSides();
        walkLongest();
        roundBounds();
        roundSteps();
        roundLongest();
        reachBounds();
        reachRows();
        reachOneCell();
        reachHalls();
        reachEmptyAndFull();
        reachBehindEachOther();
        keyBounds();
        keyNone();
        keyOthers();
        keyLeast();
        addBounds();
        addNone();
        addFirst();
        addYears();
        addWhere();
        shareBounds();
        shareNothing();
        shareLowest();
        Check.end("EdgesWaysTest");
    }

    private static void due(String sentence, long got, long want) {
        Edge.due(sentence, got, want);
    }

    /** To and fro over the whole wall, 35 steps, none nearer by another way. */
    private static int[] longWay() {
        int[] way = new int[36];
        for (int i = 0; i < way.length; i++) {
            int turn = i / 9;
            int column = i % 9 == 8 ? 7 : i % 9;
            int row = 2 * turn + (i % 9 == 8 ? 1 : 0);
            way[i] = 8 * row + (turn % 2 == 0 ? column : 7 - column);
        }
        return way;
    }

    // ---- promise 15: walk

    private static void walkBounds() {
        Edge.bounds("15 from", 0, 63, BAD, (x, v) -> x.walk(v, 0));
        Edge.bounds("15 to", 0, 63, BAD, (x, v) -> x.walk(0, v));
        Edge.refused("15 neither", x -> x.walk(64, 64), BAD);
        Edge.refused("15 no such CELL, from one that doesn't STAND", x -> x.walk(9, 64), BAD);
        Edge.refused("15 no such CELL, to one that doesn't STAND", x -> x.walk(64, 9), BAD);
        Edge.onlyAsks("15 only asked", x -> x.walk(0, 24));
    }

    private static void walkStanding() {
        MightHaveBeenPutUp x = Scene.make();
        due("15 from itself", x.walk(0, 0), 0);
        due("15 PUT UP, from itself", x.walk(24, 24), 0);
        due("15 CELL 63 from itself", x.walk(63, 63), 0);
        due("15 one that doesn't STAND from itself", x.walk(9, 9), NONE);
        due("15 from one that doesn't STAND", x.walk(9, 8), NONE);
        due("15 to one that doesn't STAND", x.walk(8, 9), NONE);
        due("15 one step", x.walk(0, 8), 1);
        due("15 one step back", x.walk(8, 0), 1);
        due("15 two steps, aslant", x.walk(1, 8), 2);
        due("15 around a gap", x.walk(8, 10), 4);
        due("15 a HOUSE apart", x.walk(63, 31), NONE);
        due("15 a HOUSE apart, back", x.walk(31, 63), NONE);
        due("15 the first's to the third's", x.walk(24, 31), 3 + 7 + 3);
        due("15 nothing STANDS", Edge.house().walk(0, 0), NONE);
    }

    private static void walkSides() {
        for (int row = 0; row < 7; row++) {
            MightHaveBeenPutUp x = Edge.house(8 * row + 7, 8 * row + 8);
            due("15 no step over a side", x.walk(8 * row + 7, 8 * row + 8), NONE);
            due("15 no step over a side", x.walk(8 * row + 8, 8 * row + 7), NONE);
        }
        for (int column = 0; column < 8; column++) {
            MightHaveBeenPutUp x = Edge.house(column, 56 + column);
            due("15 no step from the lowest to the highest ROW", x.walk(column, 56 + column), NONE);
            due("15 no step from the highest to the lowest ROW", x.walk(56 + column, column), NONE);
        }
        MightHaveBeenPutUp all = Edge.allHouseBut();
        for (int cell = 0; cell < 64; cell++) {
            due("15 all STANDS", all.walk(0, cell), cell % 8 + cell / 8);
            due("15 all STANDS", all.walk(cell, 63), 14 - cell % 8 - cell / 8);
        }
    }

    private static void walkLongest() {
        int[] way = longWay();
        MightHaveBeenPutUp x = Edge.house(way);
        for (int i = 0; i < way.length; i++) {
            due("15 a long way", x.walk(way[0], way[i]), i);
            due("15 a long way back", x.walk(way[i], way[0]), i);
        }
        x.set(3, way[20], 0);
        due("15 up to where it ends", x.walk(way[0], way[19]), 19);
        due("15 not over the gap", x.walk(way[0], way[21]), NONE);
    }

    // ---- promise 16: round

    private static void roundBounds() {
        Edge.bounds("16 from", 0, 63, NO, (x, v) -> x.round(v, 1));
        Edge.bounds("16 n", 0, 63, NO, (x, v) -> x.round(0, v));
        Edge.refused("16 neither", x -> x.round(64, 64), NO);
        Edge.refused("16 n, from one that doesn't STAND", x -> x.round(9, 64), NO);
        Edge.onlyAsks("16 only asked", x -> x.round(0, 63));
    }

    private static void roundSteps() {
        MightHaveBeenPutUp x = Scene.make();
        due("16 it doesn't STAND: none, n 0", x.round(9, 0), 0);
        due("16 it doesn't STAND: none, n 63", x.round(9, 63), 0);
        due("16 n 0: itself", x.round(8, 0), Check.cells(8));
        due("16 n 1", x.round(8, 1), Check.cells(0, 8, 16));
        due("16 n 2", x.round(8, 2), Check.cells(0, 1, 8, 16, 24));
        due("16 n 3", x.round(8, 3), Check.cells(0, 1, 2, 8, 16, 24));
        due("16 n 4", x.round(8, 4), Check.cells(0, 1, 2, 3, 10, 8, 16, 24));
        due("16 HOUSE alone, n 0", x.round(63, 0), Long.MIN_VALUE);
        due("16 HOUSE alone, n 63", x.round(63, 63), Long.MIN_VALUE);
        due("16 all but it", x.round(24, 63), x.wall(-2) & Long.MAX_VALUE);
        due("16 nothing STANDS", Edge.house().round(0, 63), 0);
        MightHaveBeenPutUp all = Edge.allHouseBut();
        due("16 from a corner, n 13", all.round(0, 13), Long.MAX_VALUE);
        due("16 from a corner, n 14", all.round(0, 14), -1L);
        due("16 beside a side", all.round(7, 1), Check.cells(6, 7, 15));
        due("16 beside a side", all.round(8, 1), Check.cells(0, 8, 9, 16));
        due("16 the highest ROW", all.round(56, 1), Check.cells(48, 56, 57));
        due("16 the last CELL", all.round(63, 1), Check.cells(55, 62, 63));
    }

    private static void roundLongest() {
        int[] way = longWay();
        MightHaveBeenPutUp x = Edge.house(way);
        long come = 0;
        for (int n = 0; n < 64; n++) {
            come |= n < way.length ? 1L << way[n] : 0;
            due("16 a long way, n " + n, x.round(way[0], n), come);
        }
    }

    // ---- promise 17: reach

    private static void reachBounds() {
        Edge.bounds("17 a CELL", 0, 63, BAD, (x, v) -> x.reach(v));
        Edge.onlyAsks("17 in thought, 2 PARTS", x -> x.reach(47));
        Edge.onlyAsks("17 in thought, 1 PART", x -> x.reach(9));
    }

    private static void reachRows() {
        int[] rows = {0, 1, 1, 1, 2, 2, 2, NONE};
        MightHaveBeenPutUp x = Edge.fresh();
        for (int cell = 0; cell < 64; cell++) {
            due("17 by how few PARTS: CELL " + cell, x.reach(cell), rows[cell / 8]);
        }
    }

    /** All CELLS that a PART, put up where it CAN go, brings to STAND. */
    private static long reachedFrom(long stands) {
        long reached = 0;
        for (int part = 0; part < 6; part++) {
            for (int at = 0; at < 64; at++) {
                if (Edge.canGo(part, at, stands)) {
                    reached |= Check.cells(Edge.partAt(part, at));
                }
            }
        }
        return reached;
    }

    private static long reachedByTwo(long stands) {
        long reached = 0;
        for (int part = 0; part < 6; part++) {
            for (int at = 0; at < 64; at++) {
                if (Edge.canGo(part, at, stands)) {
                    reached |= reachedFrom(stands | Check.cells(Edge.partAt(part, at)));
                }
            }
        }
        return reached;
    }

    private static void reachDue(String sentence, MightHaveBeenPutUp x) {
        long stands = x.wall(-2);
        long one = reachedFrom(stands);
        long two = reachedByTwo(stands);
        for (int cell = 0; cell < 64; cell++) {
            due("17 CELL " + cell + ", " + sentence, x.reach(cell), Edge.has(stands, cell) ? 0
                : Edge.has(one, cell) ? 1 : Edge.has(two, cell) ? 2 : NONE);
        }
    }

    private static void reachOneCell() {
        for (int house = 0; house < 64; house++) {
            reachDue("HOUSE " + house, Edge.house(house));
        }
    }

    /** Walls with holes and halls, where PARTS are too long, or have no room to turn. */
    private static void reachHalls() {
        long[] walls = {
            0x00007e42426e2affL, 0xff818181818181ffL, 0xffbdbdbdbdbdbdffL, 0x55aa55aa55aa55aaL, 0x8142241818244281L,
            0x0055005500550055L, 0xfffffffffffeffffL, 0xdbdbdbdbdbdbdbdbL, 0xff00ff00ff0000ffL, 0x1010101010101010L,
            0x55aa55aa00000000L, 0x2222888822228888L, 0x9249249249249249L, 0xb6db6db6db6db6dbL, 0xf7f7c1f7f7f7f7f7L,
            0xfffbf9fcfefefcf9L, 0xefe7f3fbf9fdfcfeL, 0x7f3f9fcfe7f3f9fcL,
        };
        for (long wall : walls) {
            MightHaveBeenPutUp x = Edge.house();
            for (int cell = 0; cell < 64; cell++) {
                x.set(3, cell, Edge.has(wall, cell) ? 1 : 0);
            }
            reachDue("HOUSE " + Long.toHexString(wall), x);
        }
        reachDue("the scene", Scene.make());
    }

    private static void reachEmptyAndFull() {
        MightHaveBeenPutUp none = Edge.house();
        MightHaveBeenPutUp all = Edge.allHouseBut();
        MightHaveBeenPutUp one = Edge.allHouseBut(63);
        for (int cell = 0; cell < 64; cell++) {
            due("17 nothing STANDS", none.reach(cell), NONE);
            due("17 all STANDS", all.reach(cell), 0);
            due("17 one is left", one.reach(cell), cell == 63 ? 1 : 0);
        }
        MightHaveBeenPutUp x = Scene.make();
        due("17 what is PUT UP STANDS", x.reach(24), 0);
        due("17 without REGRETS too", Edge.fresh().reach(8), 1);
    }

    /** Halls one CELL wide, so that one PART alone can't turn, and two can only go one behind the other. */
    private static void reachBehindEachOther() {
        MightHaveBeenPutUp hall = Edge.allHouseBut(9, 10, 11, 12, 13, 14);
        hall.set(3, 8, 1);
        for (int cell = 9; cell < 15; cell++) {
            due("17 HOUSE all along", hall.reach(cell), 1);
        }
        MightHaveBeenPutUp x = Edge.house(0);
        due("17 one beam", x.reach(3), 1);
        due("17 two beams", x.reach(6), 2);
        due("17 three beams", x.reach(7), NONE);
        MightHaveBeenPutUp y = Edge.house(0, 2);
        due("17 by a nail between", y.reach(1), 1);
        due("17 behind what STANDS", y.reach(5), 1);
        due("17 two, from the nearer", y.reach(7), 2);
    }

    // ---- promise 18: key

    private static void keyBounds() {
        Edge.bounds("18 what", 0, 1, BAD, (x, v) -> x.key(v));
        due("18 what, nothing PUT UP", Edge.fresh().key(2), BAD);
        due("18 what, nothing PUT UP", Edge.fresh().key(-1), BAD);
        Edge.onlyAsks("18 in thought", x -> x.key(0));
        Edge.onlyAsks("18 in thought", x -> x.key(1));
    }

    private static void keyDue(String sentence, MightHaveBeenPutUp x, int cell, int others) {
        due("18 " + sentence, x.key(0), cell);
        due("18 others, " + sentence, x.key(1), others);
    }

    private static void keyNone() {
        keyDue("no REGRETS", Edge.fresh(), NONE, NONE);
        keyDue("nothing STANDS", Edge.house(), NONE, NONE);
        keyDue("all is HOUSE", Edge.allHouseBut(), NONE, NONE);
        MightHaveBeenPutUp x = Edge.fresh();
        x.regret(0, 0, 0);
        keyDue("none is PUT UP", x, NONE, NONE);
        x.raise(0, 0, 8);
        keyDue("one alone", x, 8, 0);
        x.fell(8);
        keyDue("it fell", x, NONE, NONE);
    }

    private static void keyOthers() {
        MightHaveBeenPutUp x = Edge.fresh();
        x.regret(5, 0, 0);
        x.regret(5, 0, 0);
        x.raise(0, 0, 15);
        keyDue("one", x, 15, 0);
        x.raise(1, 0, 23);
        keyDue("the foot", x, 15, 1);
        x.raise(0, 4, 31);
        x.raise(0, 0, 55);
        x.raise(1, 1, 62);
        keyDue("the whole tower, whoever it is for", x, 15, 7);
        x.raise(1, 4, 14);
        keyDue("held from both sides up to ROW 3", x, 31, 5);
        x.raise(0, 4, 38);
        keyDue("held from both sides everywhere", x, 14, 0);
        MightHaveBeenPutUp y = Edge.house(62);
        y.regret(5, 0, 0);
        y.raise(0, 0, 63);
        keyDue("CELL 63", y, 63, 0);
        MightHaveBeenPutUp z = Edge.house(1);
        z.regret(5, 0, 0);
        z.raise(0, 0, 0);
        keyDue("CELL 0", z, 0, 0);
        z.raise(0, 4, 8);
        keyDue("CELL 0 holds", z, 0, 3);
    }

    private static void keyLeast() {
        MightHaveBeenPutUp x = Edge.fresh();
        x.regret(5, 0, 0);
        x.raise(0, 4, 15);
        keyDue("one tower", x, 15, 2);
        x.raise(0, 4, 8);
        keyDue("of like ones the least", x, 8, 2);
        x.raise(0, 0, 39);
        keyDue("more others, though greater", x, 15, 3);
        x.raise(0, 0, 32);
        keyDue("like ones again", x, 8, 3);
        MightHaveBeenPutUp y = Edge.fresh();
        y.regret(5, 0, 0);
        y.raise(0, 3, 13);
        y.raise(0, 3, 8);
        keyDue("none holds another: the least", y, 8, 0);
    }

    // ---- promise 19: add

    private static void addBounds() {
        for (int what = 0; what < 2; what++) {
            int asked = what;
            Edge.bounds("19 one, what " + what, 0, 2, BAD, (x, v) -> x.add(v, 1, asked));
            Edge.bounds("19 n, what " + what, 1, 20, BAD, (x, v) -> x.add(0, v, asked));
            Edge.onlyAsks("19 in thought", x -> x.add(0, 20, asked));
            due("19 no REGRETS, what " + what, Edge.fresh().add(0, 1, what), BAD);
        }
        Edge.bounds("19 what", 0, 1, BAD, (x, v) -> x.add(0, 1, v));
    }

    private static void addDue(String sentence, MightHaveBeenPutUp x, int[] asked, int which, int many) {
        due("19 " + sentence, x.add(asked[0], asked[1], 0), which);
        due("19 how many, " + sentence, x.add(asked[0], asked[1], 1), many);
    }

    private static int[] of(int one, int n) {
        return new int[] {one, n};
    }

    private static void addNone() {
        MightHaveBeenPutUp x = Edge.house();
        x.regret(5, 0, 0);
        addDue("nothing STANDS", x, of(0, 20), NONE, 0);
        MightHaveBeenPutUp y = Edge.house(0);
        y.regret(5, 0, 0);
        for (int cell = 1; cell < 63; cell++) {
            y.raise(0, 0, cell);
        }
        addDue("one place more", y, of(0, 20), 63, 63);
        y.raise(0, 0, 63);
        addDue("no place more", y, of(0, 20), NONE, 63);
        MightHaveBeenPutUp first = Edge.allHouseBut(0);
        first.regret(5, 0, 0);
        addDue("the first place alone", first, of(0, 20), 0, 1);
        MightHaveBeenPutUp z = Edge.fresh();
        z.regret(0, 0, 99);
        z.raise(0, 3, 8);
        Edge.rule(z, "3", "0", "0");
        addDue("as many as so, not more", z, of(0, 1), NONE, 3);
        Edge.rule(z, "4", "0", "0");
        addDue("one more", z, of(0, 1), 11, 4);
        Edge.rule(z, "0", "0", "0");
        addDue("none is PUT UP then", z, of(0, 1), NONE, 0);
    }

    /** By each number that one holds: the PART that comes first. */
    private static void addFirst() {
        int[] which = {NONE, 8, 108, 208, 508, 508};
        for (int holds = 0; holds < which.length; holds++) {
            MightHaveBeenPutUp x = Edge.fresh();
            x.regret(0, 0, 99);
            Edge.rule(x, "" + holds, "0", "0");
            addDue("holding " + holds, x, of(0, 20), which[holds], Math.min(4, holds));
        }
        MightHaveBeenPutUp y = Edge.fresh();
        y.regret(5, 0, 0);
        y.set(3, 8, 1);
        addDue("of like ones the first CELL", y, of(0, 1), 509, 4);
        MightHaveBeenPutUp z = Edge.allHouseBut(9, 10, 62, 63, 45, 53, 61);
        z.regret(5, 0, 0);
        addDue("a beam ahead of a post", z, of(0, 1), 361, 3);
        z.set(3, 63, 1);
        addDue("a post", z, of(0, 1), 445, 3);
        z.set(3, 45, 1);
        addDue("a sill, the first of two", z, of(0, 1), 109, 2);
        z.set(3, 9, 1);
        addDue("a sill at the last place", z, of(0, 1), 161, 2);
        z.set(3, 61, 1);
        addDue("a nail, the first of three", z, of(0, 1), 10, 1);
        z.set(3, 10, 1);
        addDue("a nail, the first of two", z, of(0, 1), 53, 1);
        z.set(3, 53, 1);
        addDue("a nail, the last", z, of(0, 1), 62, 1);
        z.set(3, 62, 1);
        addDue("all STANDS", z, of(0, 1), NONE, 0);
    }

    private static void addYears() {
        MightHaveBeenPutUp x = Edge.fresh();
        x.regret(0, 0, 20);
        Edge.rule(x, "firm", "1", "0");
        addDue("19 YEARS: 1 holds", x, of(0, 19), 8, 1);
        addDue("20 YEARS: none holds", x, of(0, 20), NONE, 0);
        addDue("1 YEAR: all hold", x, of(0, 1), 508, 4);
        x.set(2, 0, 24);
        addDue("20 YEARS: 4 hold", x, of(0, 20), 508, 4);
        x.set(2, 0, 23);
        addDue("20 YEARS: 3 hold", x, of(0, 20), 208, 3);
        x.set(2, 0, 5);
        addDue("1 YEAR: 4 hold", x, of(0, 1), 508, 4);
        x.set(2, 0, 4);
        addDue("1 YEAR: 3 hold", x, of(0, 1), 208, 3);
        x.set(0, 0, 999);
        addDue("in YEAR 999 too", x, of(0, 1), 208, 3);
    }

    /** What is added can hold up another's, or make one's own fall. */
    private static void addWhere() {
        MightHaveBeenPutUp x = Edge.fresh();
        x.regret(0, 0, 99);
        x.regret(5, 0, 0);
        x.raise(0, 0, 8);
        x.raise(1, 1, 16);
        Edge.rule(x, "0", "0", "0");
        // CELL 8 falls for certain, and with it 16 and 17, unless they are held from 18
        addDue("holding up what would FALL", x, of(1, 1), 510, 4 + 2);
        addDue("for one who holds nothing", x, of(0, 1), NONE, 0);
        MightHaveBeenPutUp y = Edge.fresh();
        y.regret(0, 0, 99);
        y.raise(0, 3, 8);
        Edge.rule(y, "3-(3<parts)*3", "0", "0");
        addDue("more would be less", y, of(0, 1), NONE, 3);
    }

    // ---- promise 20: share

    private static void shareBounds() {
        for (int part = 0; part < 2; part++) {
            int asked = part;
            Edge.bounds("20 one, part " + part, 0, 2, NO, (x, v) -> x.share(v, asked));
            due("20 no REGRETS, part " + part, Edge.fresh().share(0, part), NO);
            Edge.onlyAsks("20 only asked", x -> x.share(1, asked));
        }
        Edge.bounds("20 part", 0, 1, NO, (x, v) -> x.share(0, v));
    }

    private static void shareNothing() {
        MightHaveBeenPutUp x = Edge.house();
        x.regret(5, 0, 0);
        due("20 nothing STANDS, above", x.share(0, 0), NO);
        due("20 nothing STANDS, below", x.share(0, 1), NO);
        due("20 nothing STANDS, part", x.share(0, 2), NO);
        due("20 nothing STANDS, none such", x.share(1, 0), NO);
        x.set(3, 63, 1);
        shareDue(x, 0, 0, 1);
        x.raise(0, 0, 62);
        shareDue(x, 0, 1, 2);
    }

    private static void shareDue(MightHaveBeenPutUp x, int one, int above, int below) {
        due("20 above the line, of " + one, x.share(one, 0), above);
        due("20 below the line, of " + one, x.share(one, 1), below);
    }

    private static void shareLowest() {
        MightHaveBeenPutUp x = Edge.house(0);
        x.regret(5, 0, 0);
        x.regret(5, 0, 0);
        for (int cell = 1; cell < 64; cell++) {
            x.raise(0, 0, cell);
            int below = cell + 1;
            shareDue(x, 0, cell, below);
        }
        shareDue(x, 1, 0, 1);
        MightHaveBeenPutUp y = Edge.fresh();
        y.regret(5, 0, 0);
        y.regret(5, 0, 0);
        y.raise(0, 5, 8);
        shareDue(y, 0, 1, 3);
        shareDue(y, 1, 0, 1);
        y.raise(0, 5, 10);
        shareDue(y, 0, 1, 2);
        y.raise(1, 5, 12);
        shareDue(y, 0, 2, 5);
        shareDue(y, 1, 1, 5);
        y.raise(1, 5, 14);
        shareDue(y, 0, 1, 3);
        y.raise(1, 0, 24);
        shareDue(y, 0, 8, 25);
        shareDue(y, 1, 9, 25);
    }
}
