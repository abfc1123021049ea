/** The boundary cases of promises 28 to 32, a test for each sentence that names one. */
public final class EdgesHostTest {
    private static final int BAD = Edge.BAD;
    private static final int NOTHING = Edge.NOTHING, OUTSIDE = Edge.OUTSIDE, UNLIKE = Edge.UNLIKE;
    private static final int TOO_SMALL = Edge.TOO_SMALL, MIN = Edge.MIN, MAX = Edge.MAX;

    public static void main(String[] args) {
        sheetBounds();
        sheetSize();
        sheetMissing();
        sheetOrder();
        sheetAllZero();
        cellBounds();
        cellOrder();
        cellLowestBits();
        cellOthersStay();
        copyBounds();
        copyPlaces();
        copyOrder();
        copyAsTheyWere();
        copyNumbers();
        bagBounds();
        bagOrder();
        bagPlaces();
        bagLeftOut();
        bagFull();
        bagSorts();
        takenBounds();
        takenUnder();
        Check.end("EdgesHostTest");
    }

    private static void due(String sentence, long got, long want) {
        Edge.due(sentence, got, want);
    }

    private static void row(MightHaveBeenPutUp x, int sheet, int sort, int... items) {
        x.sheet(sheet, sort, items.length);
        for (int i = 0; i < items.length; i++) {
            x.cell(sheet, i, items[i]);
        }
    }

    /** Of a row with KIND, NUMBER, FIRM at i: what one that comes by it has. */
    private static void regretDue(String sentence, MightHaveBeenPutUp x, int one, int... want) {
        due(sentence + ": KIND", x.told(one, 3), want[0]);
        due(sentence + ": NUMBER", x.told(one, 1), want[1]);
        due(sentence + ": FIRM", x.told(one, 2), want[2]);
    }

    // ---- promise 28: sheet

    private static void sheetBounds() {
        for (int sort = -1; sort < 3; sort++) {
            int made = sort;
            Edge.bounds("28 SHEET, sort " + sort, 0, 3, BAD, (x, v) -> x.sheet(v, made, 5));
        }
        Edge.bounds("28 sort", -1, 2, BAD, (x, v) -> x.sheet(0, v, 5));
        for (int sort = 0; sort < 3; sort++) {
            int made = sort;
            Edge.refused("28 n above 40", x -> x.sheet(1, made, 41), BAD);
            Edge.refused("28 n far above 40", x -> x.sheet(1, made, MAX), BAD);
            Edge.refused("28 a size below 0", x -> x.sheet(1, made, -1), TOO_SMALL);
            Edge.refused("28 a size far below 0", x -> x.sheet(1, made, MIN), TOO_SMALL);
            Edge.refused("28 a missing one stays missing", x -> x.sheet(3, made, 41), BAD);
            Edge.refused("28 a missing one stays missing", x -> x.sheet(3, made, -1), TOO_SMALL);
        }
    }

    private static void sheetSize() {
        int[] sizes = {0, 1, 39, 40};
        for (int sheet = 0; sheet < 4; sheet++) {
            for (int sort = 0; sort < 3; sort++) {
                for (int n : sizes) {
                    MightHaveBeenPutUp x = Scene.make();
                    due("28 n of a sort", x.sheet(sheet, sort, n), 1);
                    due("28 the last item", x.cell(sheet, n - 1, 0), n == 0 ? OUTSIDE : 1);
                    due("28 none behind it", x.cell(sheet, n, 0), OUTSIDE);
                    for (int other = 0; other < 3; other++) {
                        due("28 its sort", x.bag(sheet, other, 0, 0), other == sort ? 0 : UNLIKE);
                    }
                    due("28 the others stay", x.cell((sheet + 1) % 4, 0, 0), sheet == 2 ? NOTHING : 1);
                }
            }
        }
    }

    private static void sheetMissing() {
        int[] whatever = {MIN, -1, 0, 40, 41, MAX};
        for (int n : whatever) {
            for (int sheet = 0; sheet < 4; sheet++) {
                MightHaveBeenPutUp x = Scene.make();
                due("28 missing, n " + n, x.sheet(sheet, -1, n), 1);
                due("28 it is missing", x.cell(sheet, 0, 0), NOTHING);
                due("28 and made anew", x.sheet(sheet, 0, 1), 1);
                due("28 with an item", x.cell(sheet, 0, 0), 1);
            }
            Edge.refused("28 no such SHEET to be missing", x -> x.sheet(4, -1, n), BAD);
        }
    }

    private static void sheetOrder() {
        Edge.refused("28 BAD SHEET ahead of -14", x -> x.sheet(4, 0, -1), BAD);
        Edge.refused("28 BAD SHEET ahead of -14", x -> x.sheet(-1, 0, -1), BAD);
        Edge.refused("28 BAD sort ahead of -14", x -> x.sheet(0, 3, -1), BAD);
        Edge.refused("28 BAD sort ahead of -14", x -> x.sheet(0, -2, -1), BAD);
        Edge.refused("28 BAD sort, n above 40", x -> x.sheet(0, -2, 41), BAD);
    }

    private static void sheetAllZero() {
        for (int sort = 0; sort < 3; sort++) {
            MightHaveBeenPutUp x = Edge.fresh();
            row(x, 0, sort, 5, 9, 99, 5, 9, 99);
            x.sheet(0, sort, 6);
            due("28 all 0", x.bag(0, sort, 0, 2), 2);
            regretDue("28 all 0", x, 0, 0, 0, 0);
            regretDue("28 all 0", x, 1, 0, 0, 0);
            row(x, 0, sort, 5, 9, 99);
            x.sheet(0, sort, 2);
            x.sheet(0, sort, 3);
            due("28 all 0 behind a shorter one", x.bag(0, sort, 0, 1), 1);
            regretDue("28 all 0 behind a shorter one", x, 2, 0, 0, 0);
            row(x, 0, sort, 5, 9, 99);
            x.sheet(0, -1, 3);
            x.sheet(0, sort, 3);
            due("28 all 0 behind none", x.bag(0, sort, 0, 1), 1);
            regretDue("28 all 0 behind none", x, 3, 0, 0, 0);
        }
    }

    // ---- promise 29: cell

    private static void cellBounds() {
        Edge.outside("29 SHEET", 0, 3, BAD, (x, v) -> x.cell(v, 0, 1));
        for (int sheet = 0; sheet < 3; sheet++) {
            int asked = sheet;
            Edge.bounds("29 item of SHEET " + sheet, 0, Scene.ITEMS[sheet] - 1, OUTSIDE,
                (x, v) -> x.cell(asked, v, 1));
        }
        int[] items = {MIN, -1, 0, 1, MAX};
        for (int i : items) {
            Edge.refused("29 a missing SHEET, item " + i, x -> x.cell(3, i, 1), NOTHING);
            MightHaveBeenPutUp x = Scene.make();
            x.sheet(0, 0, 0);
            due("29 an empty SHEET, item " + i, x.cell(0, i, 1), OUTSIDE);
        }
    }

    private static void cellOrder() {
        Edge.refused("29 BAD ahead of -12", x -> x.cell(4, -1, 0), BAD);
        Edge.refused("29 BAD ahead of -12", x -> x.cell(-1, MAX, 0), BAD);
        Edge.refused("29 -11 ahead of -12", x -> x.cell(3, -1, 0), NOTHING);
        Edge.refused("29 -11 ahead of -12", x -> x.cell(3, 40, 0), NOTHING);
    }

    /** Of bytes the lowest 8 bits, of shorts 16; what they make is seen as FIRM, where it is 0 .. 99. */
    private static void cellLowestBits() {
        int[] v = {0, 99, 100, 127, 128, 255, 256, 256 + 99, 256 + 100, -256, -157, -1, 32768, 65535, 65536,
            65536 + 99, -65536 + 99, (1 << 24) + 7, MAX, MIN};
        int[] asByte = {0, 99, -1, -1, -1, -1, 0, 99, -1, 0, 99, -1, 0, -1, 0, 99, 99, 7, -1, 0};
        int[] asShort = {0, 99, -1, -1, -1, -1, -1, -1, -1, -1, -1, -1, -1, -1, 0, 99, 99, 7, -1, 0};
        int[] asInt = {0, 99, -1, -1, -1, -1, -1, -1, -1, -1, -1, -1, -1, -1, -1, -1, -1, -1, -1, -1};
        int[][] want = {asByte, asShort, asInt};
        for (int sort = 0; sort < 3; sort++) {
            for (int i = 0; i < v.length; i++) {
                MightHaveBeenPutUp x = Edge.fresh();
                row(x, 0, sort, 0, 0, v[i]);
                due("29 of sort " + sort + ": " + v[i], x.bag(0, sort, 0, 1), want[sort][i] < 0 ? 0 : 1);
                due("29 FIRM by " + v[i], x.told(0, 2), want[sort][i] < 0 ? BAD : want[sort][i]);
            }
        }
    }

    private static void cellOthersStay() {
        for (int sort = 0; sort < 3; sort++) {
            MightHaveBeenPutUp x = Edge.fresh();
            row(x, 0, sort, 1, 2, 3, 4, 5, 6);
            row(x, 1, sort, 1, 2, 3, 4, 5, 6);
            due("29 one item", x.cell(0, 2, 77), 1);
            due("29 the last item", x.cell(0, 5, 88), 1);
            x.bag(0, sort, 0, 2);
            regretDue("29 the first three", x, 0, 1, 2, 77);
            regretDue("29 the last three", x, 1, 4, 5, 88);
            x.bag(1, sort, 0, 1);
            regretDue("29 another SHEET's", x, 2, 1, 2, 3);
        }
    }

    // ---- promise 30: copy

    private static void copyBounds() {
        Edge.outside("30 SHEET", 0, 3, BAD, (x, v) -> x.copy(v, 0, 0, 0, 1));
        Edge.outside("30 another", 0, 3, BAD, (x, v) -> x.copy(0, 0, v, 0, 1));
        for (int sheet = 0; sheet < 3; sheet++) {
            int asked = sheet;
            int size = Scene.ITEMS[sheet];
            Edge.bounds("30 from item", 0, size - 1, OUTSIDE, (x, v) -> x.copy(asked, v, asked, 0, 1));
            Edge.bounds("30 to item", 0, size - 1, OUTSIDE, (x, v) -> x.copy(asked, 0, asked, v, 1));
            Edge.bounds("30 n", 0, size, OUTSIDE, (x, v) -> x.copy(asked, 0, asked, 0, v));
            Edge.bounds("30 none from item", 0, size, OUTSIDE, (x, v) -> x.copy(asked, v, asked, 0, 0));
            Edge.bounds("30 none to item", 0, size, OUTSIDE, (x, v) -> x.copy(asked, 0, asked, v, 0));
            Edge.refused("30 also with n below 0", x -> x.copy(asked, 1, asked, 1, -1), OUTSIDE);
            Edge.refused("30 also with n below 0", x -> x.copy(asked, size, asked, size, -1), OUTSIDE);
            Edge.refused("30 no sum that wraps", x -> x.copy(asked, MAX, asked, MAX, MAX), OUTSIDE);
            Edge.refused("30 no sum that wraps", x -> x.copy(asked, 1, asked, 1, MAX), OUTSIDE);
            Edge.refused("30 no sum that wraps", x -> x.copy(asked, MIN, asked, MIN, MIN), OUTSIDE);
            Edge.refused("30 no sum that wraps", x -> x.copy(asked, MAX, asked, 0, 2), OUTSIDE);
            Edge.refused("30 no sum that wraps", x -> x.copy(asked, 0, asked, MAX, 2), OUTSIDE);
        }
    }

    /** Two rows of 3 and 5: every place and number around their bounds. */
    private static void copyPlaces() {
        for (int i = -1; i <= 6; i++) {
            for (int j = -1; j <= 6; j++) {
                for (int n = -1; n <= 6; n++) {
                    boolean so = i >= 0 && j >= 0 && n >= 0 && i + n <= 3 && j + n <= 5;
                    MightHaveBeenPutUp x = Edge.fresh();
                    x.sheet(0, 1, 3);
                    x.sheet(1, 1, 5);
                    due("30 " + n + " from " + i + " of 3 to " + j + " of 5", x.copy(0, i, 1, j, n),
                        so ? n : OUTSIDE);
                    boolean back = i >= 0 && j >= 0 && n >= 0 && i + n <= 5 && j + n <= 3;
                    due("30 " + n + " from " + i + " of 5 to " + j + " of 3", x.copy(1, i, 0, j, n),
                        back ? n : OUTSIDE);
                }
            }
        }
        MightHaveBeenPutUp y = Edge.fresh();
        y.sheet(0, 0, 0);
        y.sheet(1, 0, 40);
        y.sheet(2, 0, 40);
        due("30 none of none", y.copy(0, 0, 0, 0, 0), 0);
        due("30 none of none to the end", y.copy(0, 0, 1, 40, 0), 0);
        due("30 one of none", y.copy(0, 0, 1, 0, 1), OUTSIDE);
        due("30 all of forty", y.copy(1, 0, 2, 0, 40), 40);
        due("30 forty one", y.copy(1, 0, 2, 0, 41), OUTSIDE);
    }

    private static void copyOrder() {
        Edge.refused("30 BAD SHEET ahead of -11", x -> x.copy(4, 0, 3, 0, 0), BAD);
        Edge.refused("30 BAD other ahead of -11", x -> x.copy(3, 0, 4, 0, 0), BAD);
        Edge.refused("30 BAD ahead of -12", x -> x.copy(0, -1, 4, -1, -1), BAD);
        Edge.refused("30 -11, the first", x -> x.copy(3, 0, 0, 0, 0), NOTHING);
        Edge.refused("30 -11, the other", x -> x.copy(0, 0, 3, 0, 0), NOTHING);
        Edge.refused("30 -11, both", x -> x.copy(3, 0, 3, 0, 0), NOTHING);
        Edge.refused("30 -11 ahead of -12", x -> x.copy(3, -1, 0, 0, -1), NOTHING);
        Edge.refused("30 -11 ahead of -12", x -> x.copy(0, -1, 3, 99, 99), NOTHING);
        for (int sheet = 0; sheet < 3; sheet++) {
            int one = sheet;
            for (int step = 1; step < 3; step++) {
                int other = (sheet + step) % 3;
                Edge.refused("30 unlike sorts", x -> x.copy(one, 0, other, 0, 1), UNLIKE);
                Edge.refused("30 unlike sorts, none", x -> x.copy(one, 0, other, 0, 0), UNLIKE);
                Edge.refused("30 -13 ahead of -12", x -> x.copy(one, -1, other, 0, 1), UNLIKE);
                Edge.refused("30 -13 ahead of -12", x -> x.copy(one, 0, other, 99, 1), UNLIKE);
                Edge.refused("30 -13 ahead of -12, n below 0", x -> x.copy(one, 0, other, 0, -1), UNLIKE);
            }
        }
    }

    /** Onto itself, both ways, by every distance: what comes is what was. */
    private static void copyAsTheyWere() {
        for (int sort = 0; sort < 3; sort++) {
            for (int i = 0; i <= 3; i++) {
                for (int j = 0; j <= 3; j++) {
                    int[] items = {0, 1, 2, 3, 4, 5};
                    int[] want = items.clone();
                    System.arraycopy(items.clone(), i, want, j, 3);
                    MightHaveBeenPutUp x = Edge.fresh();
                    row(x, 0, sort, items);
                    due("30 onto itself", x.copy(0, i, 0, j, 3), 3);
                    x.bag(0, sort, 0, 2);
                    String sentence = "30 as they were, from " + i + " to " + j;
                    regretDue(sentence, x, 0, want[0], want[1], want[2]);
                    regretDue(sentence, x, 1, want[3], want[4], want[5]);
                }
            }
        }
    }

    private static void copyNumbers() {
        for (int sort = 0; sort < 3; sort++) {
            MightHaveBeenPutUp x = Edge.fresh();
            row(x, 0, sort, 1, 2, 3, 4, 5, 6);
            row(x, 3, sort, 5, 9, 99, 5, 9, 99);
            due("30 two", x.copy(0, 4, 3, 2, 2), 2);
            x.bag(3, sort, 0, 2);
            regretDue("30 up to the third", x, 0, 5, 9, 5);
            x.bag(0, sort, 3, 1);
            due("30 KIND 6 came to the fourth", x.count(0), 2);
            regretDue("30 what was copied stays", x, 1, 4, 5, 6);
            due("30 the last", x.copy(0, 0, 3, 5, 1), 1);
            due("30 the first", x.copy(0, 0, 3, 3, 1), 1);
            x.bag(3, sort, 3, 1);
            regretDue("30 the others stay", x, 2, 1, 9, 1);
        }
    }

    // ---- promise 31: bag

    private static void bagBounds() {
        Edge.outside("31 SHEET", 0, 3, BAD, (x, v) -> x.bag(v, 0, 0, 0));
        Edge.outside("31 sort", 0, 2, BAD, (x, v) -> x.bag(0, v, 0, 0));
        Edge.outside("31 n", 0, 5, BAD, (x, v) -> x.bag(0, 0, 0, v));
        due("31 n 0", Scene.make().bag(1, 1, 0, 0), 0);
        due("31 n 1", Scene.make().bag(1, 1, 0, 1), 1);
        due("31 n 2", Scene.make().bag(1, 1, 0, 2), 2);
        due("31 n 5, for two has room", Scene.make().bag(2, 2, 0, 5), 2);
        MightHaveBeenPutUp x = Edge.fresh();
        x.sheet(0, 0, 15);
        due("31 n 4", x.bag(0, 0, 0, 4), 4);
        MightHaveBeenPutUp y = Edge.fresh();
        y.sheet(0, 0, 15);
        due("31 n 5", y.bag(0, 0, 0, 5), 5);
        due("31 five", y.count(0), 5);
    }

    private static void bagOrder() {
        Edge.refused("31 BAD SHEET ahead of all", x -> x.bag(4, 0, -1, 1), BAD);
        Edge.refused("31 BAD sort ahead of -11", x -> x.bag(3, 3, 0, 1), BAD);
        Edge.refused("31 BAD sort -1, of a missing one", x -> x.bag(3, -1, 0, 1), BAD);
        Edge.refused("31 BAD n ahead of -11", x -> x.bag(3, 0, 0, 6), BAD);
        Edge.refused("31 BAD n ahead of -13", x -> x.bag(0, 1, 0, -1), BAD);
        Edge.refused("31 BAD n ahead of -12", x -> x.bag(0, 0, 99, 6), BAD);
        for (int sort = 0; sort < 3; sort++) {
            int taken = sort;
            Edge.refused("31 a missing one", x -> x.bag(3, taken, 0, 1), NOTHING);
            Edge.refused("31 a missing one, n 0", x -> x.bag(3, taken, 0, 0), NOTHING);
            Edge.refused("31 -11 ahead of -12", x -> x.bag(3, taken, -1, 5), NOTHING);
            for (int step = 1; step < 3; step++) {
                int other = (sort + step) % 3;
                Edge.refused("31 of another sort", x -> x.bag(taken, other, 0, 1), UNLIKE);
                Edge.refused("31 of another sort, n 0", x -> x.bag(taken, other, 0, 0), UNLIKE);
                Edge.refused("31 -13 ahead of -12", x -> x.bag(taken, other, -1, 1), UNLIKE);
                Edge.refused("31 -13 ahead of -12", x -> x.bag(taken, other, 99, 1), UNLIKE);
            }
        }
    }

    /** Rows of 0 to 8, from each place on: how many whole threes are there ahead of the place outside. */
    private static void bagPlaces() {
        for (int size = 0; size < 9; size++) {
            for (int from = -2; from < 10; from++) {
                for (int n = 0; n < 5; n++) {
                    int whole = from < 0 ? 0 : Math.max(0, (size - from) / 3);
                    MightHaveBeenPutUp x = Edge.fresh();
                    x.sheet(0, 2, size);
                    String sentence = "31 of " + size + " from " + from + ", n " + n;
                    due(sentence, x.bag(0, 2, from, n), whole >= n ? n : OUTSIDE);
                    due(sentence + ": what stood ahead came", x.count(0), Math.min(n, whole));
                }
            }
        }
        int[] far = {MIN, MIN + 1, -3, -2, -1, 40, 41, MAX - 8, MAX - 2, MAX - 1, MAX};
        for (int from : far) {
            for (int n = 1; n < 6; n++) {
                int many = n;
                Edge.refused("31 from far outside: " + from, x -> x.bag(0, 0, from, many), OUTSIDE);
            }
        }
        MightHaveBeenPutUp x = Edge.fresh();
        x.sheet(0, 0, 40);
        due("31 up to the last item", x.bag(0, 0, 37, 1), 1);
        due("31 one beyond it", x.bag(0, 0, 38, 1), OUTSIDE);
        due("31 two up to the last item", x.bag(0, 0, 34, 2), 2);
        due("31 three are not there", x.bag(0, 0, 34, 3), OUTSIDE);
        due("31 five came", x.count(0), 5);
    }

    private static void bagLeftOut() {
        int[][] bad = {{-1, 0, 0}, {6, 0, 0}, {0, -1, 0}, {0, 10, 0}, {0, 0, -1}, {0, 0, 100}};
        int[][] good = {{0, 0, 0}, {5, 0, 0}, {0, 9, 0}, {0, 0, 99}, {5, 9, 99}};
        for (int sort = 0; sort < 3; sort++) {
            for (int[] b : bad) {
                MightHaveBeenPutUp x = Edge.fresh();
                row(x, 0, sort, b[0], b[1], b[2], 1, 2, 3);
                due("31 others are left out", x.bag(0, sort, 0, 2), 1);
                regretDue("31 the next comes", x, 0, 1, 2, 3);
                due("31 none of it came", x.count(0), 1);
                due("31 left out, then outside", x.bag(0, sort, 0, 3), OUTSIDE);
                due("31 what stood ahead came", x.count(0), 2);
            }
            for (int[] g : good) {
                MightHaveBeenPutUp x = Edge.fresh();
                row(x, 0, sort, g);
                due("31 at the bounds", x.bag(0, sort, 0, 1), 1);
                regretDue("31 at the bounds", x, 0, g[0], g[1], g[2]);
            }
        }
    }

    private static void bagFull() {
        MightHaveBeenPutUp x = Scene.fullOfRegrets();
        due("31 no room: left out", x.bag(2, 2, 0, 5), 0);
        due("31 no room, and outside", x.bag(0, 0, 0, 2), OUTSIDE);
        due("31 five stay", x.count(0), 5);
        MightHaveBeenPutUp y = Scene.make();
        due("31 room for two", y.bag(2, 2, 6, 3), 2);
        due("31 five", y.count(0), 5);
        MightHaveBeenPutUp z = Edge.fresh();
        row(z, 0, 0, 6, 0, 0, 6, 0, 0, 6, 0, 0, 6, 0, 0, 1, 1, 1);
        due("31 one of five", z.bag(0, 0, 0, 5), 1);
        due("31 none of four", z.bag(0, 0, 0, 4), 0);
        regretDue("31 the last", z, 0, 1, 1, 1);
    }

    private static void bagSorts() {
        MightHaveBeenPutUp x = Scene.make();
        due("31 the row stays", x.bag(1, 1, 0, 1), 1);
        due("31 and comes again", x.bag(1, 1, 0, 1), 1);
        regretDue("31 once", x, 3, 1, 1, 7);
        regretDue("31 twice", x, 4, 1, 1, 7);
        due("31 none is PUT UP for them", x.wall(3), 0);
        due("31 the wall stays", x.count(1), 10);
    }

    // ---- promise 32: taken

    private static void takenBounds() {
        Edge.bounds("32 KIND k", 0, 5, BAD, (x, v) -> x.taken(0, v));
        for (int k = 0; k < 6; k++) {
            int kind = k;
            Edge.bounds("32 one, k " + k, 0, 2, NOTHING, (x, v) -> x.taken(v, kind));
            due("32 no REGRETS, k " + k, Edge.fresh().taken(0, k), NOTHING);
        }
        Edge.refused("32 BAD ahead of -11", x -> x.taken(3, 6), BAD);
        Edge.refused("32 BAD ahead of -11", x -> x.taken(-1, -1), BAD);
        Edge.refused("32 -11, not -13", x -> x.taken(3, 5), NOTHING);
        Edge.refused("32 of another KIND", x -> x.taken(0, 2), UNLIKE);
        due("32 the fifth", Scene.fullOfRegrets().taken(4, 2), 2);
        due("32 no sixth", Scene.fullOfRegrets().taken(5, 2), NOTHING);
    }

    /** One of each KIND, taken for one of each: itself, what it is under, also by others between. */
    private static void takenUnder() {
        String[] fits = {
            "100000",
            "110000",
            "101000",
            "110100",
            "101010",
            "100001",
        };
        int[] numbers = {0, 1, 9};
        for (int kind = 0; kind < 6; kind++) {
            for (int k = 0; k < 6; k++) {
                for (int number : numbers) {
                    MightHaveBeenPutUp x = Edge.fresh();
                    x.regret(kind, number, 50);
                    due("32 KIND " + kind + " taken for " + k, x.taken(0, k),
                        fits[kind].charAt(k) == '1' ? number : UNLIKE);
                }
            }
        }
    }
}
