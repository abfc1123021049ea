/** The boundary cases of promises 21 to 27, a test for each sentence that names one. */
public final class EdgesToldTest {
    private static final int NONE = Edge.NONE, BAD = Edge.BAD, STATE = Edge.STATE;
    private static final int NOTHING = Edge.NOTHING, OUTSIDE = Edge.OUTSIDE, UNLIKE = Edge.UNLIKE;
    private static final long NO = Edge.NO;
    private static final int MIN = Edge.MIN, MAX = Edge.MAX;

    public static void main(String[] args) {
        tellsBounds();
        tellsOrder();
        tellsSize();
        tellsFirst();
        tellsNumbersOfSorts();
        tellsKinds();
        tellsNumbers();
        tellsFirms();
        tellsTexts();
        tellsRegrets();
        tellsYears();
        filmBounds();
        filmSize();
        filmNumbers();
        drawnBounds();
        drawnYears();
        drawnCells();
        chanceBounds();
        chanceSeeds();
        chanceLowest();
        chanceYears();
        imageEmptyAndFull();
        imageAnew();
        backNone();
        backKeeps();
        backLeaves();
        countBounds();
        countLeastAndMost();
        Check.end("EdgesToldTest");
    }

    private static void due(String sentence, long got, long want) {
        Edge.due(sentence, got, want);
    }

    /** A row of these on a SHEET. */
    private static void row(MightHaveBeenPutUp x, int sheet, int sort, int... items) {
        x.sheet(sheet, sort, items.length);
        for (int i = 0; i < items.length; i++) {
            x.cell(sheet, i, items[i]);
        }
    }

    private static void tellsDue(String sentence, MightHaveBeenPutUp x, int one, int what, int want) {
        due("21 " + sentence + ", what " + what, x.tells(0, one, what), want);
    }

    // ---- promise 21: tells

    private static void tellsBounds() {
        for (int what = 0; what < 7; what++) {
            int asked = what;
            Edge.bounds("21 one, what " + what, 0, 2, BAD, (x, v) -> x.tells(0, v, asked));
            Edge.bounds("21 SHEET, what " + what, 0, 1, NO, (x, v) -> v < 0 || v > 1 ? NO : x.tells(v, 0, asked));
            Edge.outside("21 SHEET, what " + what, 0, 3, BAD, (x, v) -> x.tells(v, 0, asked));
            Edge.onlyAsks("21 in thought, what " + what, x -> x.tells(1, 0, asked));
            Edge.refused("21 a missing SHEET, what " + what, x -> x.tells(3, 0, asked), NOTHING);
            Edge.refused("21 more than 20, what " + what, x -> x.tells(2, 0, asked), BAD);
            due("21 no REGRETS, what " + what, Edge.fresh().tells(0, 0, what), BAD);
        }
        Edge.bounds("21 what", 0, 6, BAD, (x, v) -> x.tells(0, 0, v));
    }

    private static void tellsOrder() {
        Edge.refused("21 BAD one ahead of -11", x -> x.tells(3, 3, 0), BAD);
        Edge.refused("21 BAD one ahead of -11", x -> x.tells(3, -1, 0), BAD);
        Edge.refused("21 BAD what ahead of -11", x -> x.tells(3, 0, 7), BAD);
        Edge.refused("21 BAD what ahead of -11", x -> x.tells(3, 0, -1), BAD);
        Edge.refused("21 BAD SHEET, whatever else", x -> x.tells(4, 3, 7), BAD);
        Edge.refused("21 -11 alone", x -> x.tells(3, 2, 6), NOTHING);
    }

    private static void tellsSize() {
        for (int sort = 0; sort < 3; sort++) {
            int[] sizes = {0, 1, 19, 20, 21, 22, 40};
            for (int size : sizes) {
                MightHaveBeenPutUp x = Edge.fresh();
                x.regret(5, 0, 0);
                x.sheet(0, sort, size);
                int[] want = {NONE, 63, 1023, 100, 0, 1, 1};
                for (int what = 0; what < 7; what++) {
                    tellsDue("so many: " + size, x, 0, what, size > 20 ? BAD : want[what]);
                }
            }
        }
    }

    private static void tellsFirst() {
        int[] sizes = {1, 2, 19, 20};
        for (int size : sizes) {
            for (int wrong = 0; wrong < size; wrong++) {
                MightHaveBeenPutUp x = Edge.fresh();
                x.regret(5, 0, 0);
                x.sheet(0, 2, size);
                x.cell(0, size - 1, 1);
                x.cell(0, wrong, -1);
                tellsDue("the first of " + size + " that is otherwise", x, 0, 0, wrong);
                x.cell(0, wrong, 0);
                tellsDue("the next of " + size, x, 0, 0, wrong == size - 1 ? NONE : size - 1);
            }
        }
        MightHaveBeenPutUp y = Edge.fresh();
        y.regret(0, 0, 5);
        y.raise(0, 3, 8);
        row(y, 0, 0, 3, 1, 0, 0);
        tellsDue("behind 1, 2, .. YEARS", y, 0, 0, NONE);
        row(y, 0, 0, 3, 3, 1, 0);
        tellsDue("not from now on", y, 0, 0, 1);
        row(y, 0, 0, 3, 1, 0, 1);
        tellsDue("the last is otherwise", y, 0, 0, 3);
    }

    private static void tellsNumbersOfSorts() {
        int[] numbers = {3, 2, 4, -3, 3 + 256, 3 - 256, 3 + 65536, 3 + (1 << 31), MAX, MIN};
        boolean[][] so = {
            {true, false, false, false, true, true, true, true, false, false},
            {true, false, false, false, false, false, true, true, false, false},
            {true, false, false, false, false, false, false, false, false, false},
        };
        for (int sort = 0; sort < 3; sort++) {
            for (int i = 0; i < numbers.length; i++) {
                MightHaveBeenPutUp x = Edge.fresh();
                x.regret(5, 0, 0);
                x.raise(0, 3, 8);
                row(x, 0, sort, numbers[i]);
                tellsDue("of sort " + sort + ": " + numbers[i], x, 0, 0, so[sort][i] ? NONE : 0);
                tellsDue("of sort " + sort + ": " + numbers[i], x, 0, 3, so[sort][i] ? 100 : 0);
            }
        }
    }

    /** One with CELL 8, the rule holding so much, and one item. */
    private static MightHaveBeenPutUp nail(String holds, int item) {
        MightHaveBeenPutUp x = Edge.fresh();
        x.set(0, 0, 500);
        x.regret(0, 5, 50);
        x.raise(0, 0, 8);
        Edge.rule(x, holds, "0", "0");
        row(x, 0, 0, item);
        return x;
    }

    private static void tellsKinds() {
        tellsDue("SAWDUST and a STAIR of NUMBER 5 hold", nail("0", 1), 0, 1, 0b101000);
        tellsDue("the others don't", nail("0", 0), 0, 1, 0b010111);
        tellsDue("all hold", nail("1", 1), 0, 1, 0b111111);
        tellsDue("none is so", nail("1", 2), 0, 1, 0);
        MightHaveBeenPutUp x = nail("0", 1);
        x.set(0, 0, 9);
        tellsDue("BOY and STAIR below YEAR 10", x, 0, 1, 0b101010);
        x.set(1, 0, 0);
        x.set(0, 0, 10);
        tellsDue("SAWDUST alone in YEAR 10", x, 0, 1, 0b100000);
        MightHaveBeenPutUp y = nail("1", 1);
        y.set(2, 0, 0);
        tellsDue("all but VIEW of FIRM 0", y, 0, 1, 0b101111);
        due("21 its KIND stays", y.told(0, 3), 0);
    }

    private static void tellsNumbers() {
        tellsDue("NUMBER 9 alone", nail("number=9", 1), 0, 2, 1 << 9);
        tellsDue("NUMBER 0 alone", nail("number=0", 1), 0, 2, 1);
        tellsDue("all but NUMBER 0", nail("number=0", 0), 0, 2, 1022);
        tellsDue("all", nail("1", 1), 0, 2, 1023);
        tellsDue("none", nail("number=10", 1), 0, 2, 0);
        MightHaveBeenPutUp x = nail("number=9", 1);
        x.tells(0, 0, 2);
        due("21 its NUMBER stays", x.told(0, 1), 5);
    }

    private static void tellsFirms() {
        firms("1", 1, 100, 0);
        firms("0", 1, 0, NONE);
        firms("firm=0", 1, 1, 0);
        firms("firm=99", 1, 1, 99);
        firms("firm=100", 1, 0, NONE);
        firms("firm=1 or firm=98", 1, 2, 1);
        firms("98<firm", 0, 99, 0);
        firms("0<firm", 1, 99, 1);
        firms("firm=31", 1, 1, 31);
        firms("firm=32 or firm=64", 1, 2, 32);
    }

    private static void firms(String holds, int item, int many, int least) {
        MightHaveBeenPutUp x = nail(holds, item);
        tellsDue("FIRMS by " + holds, x, 0, 3, many);
        tellsDue("the least by " + holds, x, 0, 4, least);
        due("21 its FIRM stays", x.told(0, 2), 50);
    }

    private static void tellsTexts() {
        MightHaveBeenPutUp x = nail("0", 1);
        tellsDue("TEXT 0 of two", x, 0, 5, 1);
        for (int text = 2; text < 6; text++) {
            Edge.rule(x, text == 5 ? "1" : "0", "0", "0");
        }
        tellsDue("TEXTS 0 and 5", x, 0, 5, 33);
        due("21 THE RULE stays", x.count(5), 5);
        row(x, 0, 0, 0);
        tellsDue("TEXTS 1 to 4", x, 0, 5, 30);
        row(x, 0, 0, 2);
        tellsDue("none of TEXTS", x, 0, 5, 0);
        x.sheet(0, 0, 0);
        tellsDue("all six TEXTS", x, 0, 5, 63);
        MightHaveBeenPutUp y = Edge.fresh();
        y.regret(0, 0, 0);
        row(y, 0, 0, 0);
        tellsDue("TEXT 0 alone", y, 0, 5, 1);
    }

    private static void tellsRegrets() {
        MightHaveBeenPutUp x = Edge.fresh();
        for (int one = 0; one < 5; one++) {
            x.regret(5, 0, 0);
            row(x, 0, 0, 0);
            tellsDue("all that there are", x, 0, 6, (2 << one) - 1);
        }
        x.raise(0, 0, 8);
        x.raise(4, 0, 9);
        for (int one = 0; one < 5; one++) {
            row(x, 0, 0, 1);
            tellsDue("the first and the last, whoever is asked", x, one, 6, 17);
            row(x, 0, 0, 0);
            tellsDue("those between", x, one, 6, 14);
            row(x, 0, 0, 2);
            tellsDue("none", x, one, 6, 0);
        }
    }

    private static void tellsYears() {
        MightHaveBeenPutUp x = Edge.fresh();
        x.regret(0, 0, 20);
        x.raise(0, 0, 8);
        Edge.rule(x, "firm", "1", "0");
        x.sheet(0, 0, 20);
        for (int i = 0; i < 20; i++) {
            x.cell(0, i, 1);
        }
        tellsDue("20 YEARS, FIRM 20", x, 0, 0, 19);
        tellsDue("FIRMS that last 20 YEARS", x, 0, 3, 79);
        tellsDue("the least", x, 0, 4, 21);
        x.cell(0, 19, 0);
        tellsDue("20 YEARS, as told", x, 0, 0, NONE);
        tellsDue("one FIRM alone", x, 0, 3, 1);
        tellsDue("it", x, 0, 4, 20);
        x.set(0, 0, 999);
        tellsDue("in YEAR 999 too", x, 0, 0, NONE);
    }

    // ---- promise 22: film

    private static void filmBounds() {
        Edge.bounds("22 SHEET", 0, 3, BAD, (x, v) -> x.film(v, 0, 1));
        Edge.bounds("22 one", 0, 2, BAD, (x, v) -> x.film(0, v, 1));
        Edge.bounds("22 n", 0, 20, BAD, (x, v) -> x.film(0, 0, v));
        due("22 no REGRETS", Edge.fresh().film(0, 0, 0), BAD);
    }

    private static void filmSize() {
        for (int sheet = 0; sheet < 4; sheet++) {
            int[] sizes = {0, 1, 19, 20};
            for (int n : sizes) {
                MightHaveBeenPutUp x = Scene.make();
                due("22 n", x.film(sheet, 0, n), n);
                due("22 it has n", x.copy(sheet, n, sheet, n, 0), 0);
                due("22 and no more", x.copy(sheet, n + 1, sheet, n + 1, 0), OUTSIDE);
                due("22 bytes", x.bag(sheet, 0, 0, 0), 0);
                due("22 no shorts", x.bag(sheet, 1, 0, 0), UNLIKE);
                due("22 no ints", x.bag(sheet, 2, 0, 0), UNLIKE);
                due("22 as it is told", x.tells(sheet, 0, 0), NONE);
                due("22 the wall stays", x.count(1), 10);
                due("22 YEAR stays", x.told(0, 0), 42);
                due("22 FIRM stays", x.told(0, 2), 19);
                due("22 PAID stays", x.count(2), 75);
            }
        }
    }

    private static void filmNumbers() {
        MightHaveBeenPutUp x = Edge.house(0);
        x.regret(0, 0, 64);
        x.regret(0, 0, 64);
        for (int cell = 1; cell < 64; cell++) {
            x.raise(0, 0, cell);
        }
        x.film(0, 0, 20);
        row(x, 1, 0, 62, 60, 58, 56, 54, 52, 50, 48, 46, 44, 42, 40, 38, 36, 34, 32, 30, 28, 26, 24);
        due("22 behind 1, .., 20 YEARS", x.tells(1, 0, 0), NONE);
        due("22 for the other none", x.tells(1, 1, 0), 0);
        x.film(1, 1, 20);
        due("22 the other's", x.tells(1, 1, 0), NONE);
        due("22 and not the first's", x.tells(1, 0, 0), 0);
        x.set(0, 0, 999);
        due("22 in YEAR 999", x.film(2, 0, 20), 20);
    }

    // ---- promise 23: drawn

    private static void drawnBounds() {
        Edge.bounds("23 n", 0, 40, BAD, (x, v) -> x.drawn(7, v));
        Edge.onlyAsks("23 in thought", x -> x.drawn(7, 40));
        int[] seeds = {MIN, -1, 0, 1, MAX};
        for (int seed : seeds) {
            due("23 any SEED, n 41", Scene.make().drawn(seed, 41), BAD);
            due("23 any SEED, n -1", Scene.make().drawn(seed, -1), BAD);
            due("23 any SEED, n 0", Scene.make().drawn(seed, 0), 10);
            due("23 no REGRETS", Edge.fresh().drawn(seed, 40), 0);
        }
    }

    /** The same storms and YEARS, truly. */
    private static int trulyDrawn(MightHaveBeenPutUp x, int seed, int n) {
        int z = seed;
        for (int i = 0; i < n; i++) {
            z = z * 1103515245 + 12345;
            x.fell((z >>> 9) % 64);
            x.year();
        }
        return x.count(1);
    }

    private static void drawnYears() {
        int[] seeds = {MIN, MIN + 1, -2, -1, 0, 1, 2, 99, MAX - 1, MAX};
        int[] years = {0, 1, 2, 10, 39, 40};
        for (int seed : seeds) {
            for (int n : years) {
                due("23 SEED " + seed + ", n " + n, Scene.make().drawn(seed, n), trulyDrawn(Scene.make(), seed, n));
                due("23 a tower, SEED " + seed + ", n " + n, tower().drawn(seed, n), trulyDrawn(tower(), seed, n));
            }
        }
    }

    private static MightHaveBeenPutUp tower() {
        MightHaveBeenPutUp x = Edge.house(0);
        x.regret(5, 0, 0);
        for (int cell = 1; cell < 64; cell++) {
            x.raise(0, 0, cell);
        }
        return x;
    }

    private static int seedOf(int cell) {
        int seed = MIN;
        while (((seed * 1103515245 + 12345) >>> 9) % 64 != cell) {
            seed += 77;
        }
        return seed;
    }

    private static void drawnCells() {
        MightHaveBeenPutUp x = Edge.house(1, 62);
        x.regret(5, 0, 0);
        x.raise(0, 0, 0);
        x.raise(0, 0, 63);
        int[] cells = {0, 1, 2, 61, 62, 63};
        int[] left = {1, 2, 2, 2, 2, 1};
        for (int i = 0; i < cells.length; i++) {
            due("23 CELL " + cells[i], x.drawn(seedOf(cells[i]), 1), left[i]);
        }
        due("23 none without a YEAR", x.drawn(seedOf(0), 0), 2);
        MightHaveBeenPutUp y = Edge.fresh();
        y.regret(0, 0, 99);
        y.raise(0, 4, 8);
        y.raise(0, 0, 9);
        Edge.rule(y, "1+(parts<4)*3", "0", "0");
        due("23 CELL 9 FALLS ahead of the YEAR, and the post is held", y.drawn(seedOf(9), 1), 3);
        due("23 no CELL FALLS, and the YEAR leaves", y.drawn(seedOf(63), 1), 3);
    }

    // ---- promise 24: chance

    private static void chanceBounds() {
        for (int part = 0; part < 2; part++) {
            int asked = part;
            Edge.bounds("24 m, part " + part, 1, 20, NO, (x, v) -> x.chance(7, v, 1, asked));
            Edge.bounds("24 k, part " + part, 0, 64, NO, (x, v) -> x.chance(7, 2, v, asked));
            Edge.onlyAsks("24 in thought", x -> x.chance(7, 20, 1, asked));
            due("24 no REGRETS, k 0", Edge.fresh().chance(7, 20, 0, part), 1);
            due("24 no REGRETS, k 1", Edge.fresh().chance(7, 20, 1, part), part);
        }
        Edge.bounds("24 part", 0, 1, NO, (x, v) -> x.chance(7, 1, 1, v));
        Edge.refused("24 nothing fits", x -> x.chance(7, 0, 65, 2), NO);
    }

    private static void chanceDue(String sentence, MightHaveBeenPutUp x, int[] asked, int above, int below) {
        due("24 above, " + sentence, x.chance(asked[0], asked[1], asked[2], 0), above);
        due("24 below, " + sentence, x.chance(asked[0], asked[1], asked[2], 1), below);
    }

    private static int[] of(int seed, int m, int k) {
        return new int[] {seed, m, k};
    }

    private static int gcd(int a, int b) {
        return b == 0 ? a : gcd(b, a % b);
    }

    /** SEED and each 1 more, over the greatest int too. */
    private static void chanceSeeds() {
        int[] seeds = {MIN, -10, 0, MAX - 19, MAX - 9, MAX - 1, MAX};
        for (int seed : seeds) {
            for (int m = 1; m <= 20; m++) {
                MightHaveBeenPutUp x = tower();
                int those = 0;
                for (int i = 0; i < m; i++) {
                    those += x.drawn(seed + i, 10) >= 45 ? 1 : 0;
                }
                int by = gcd(those, m);
                chanceDue("SEED " + seed + ", m " + m, x, of(seed, m, 45), those / by, m / by);
            }
        }
    }

    private static void chanceLowest() {
        MightHaveBeenPutUp x = Edge.fresh();
        x.regret(5, 0, 0);
        x.raise(0, 0, 8);
        int calm = 0;
        while (x.drawn(calm, 10) != 1) {
            calm++;
        }
        chanceDue("k as many as are left", x, of(calm, 1, 1), 1, 1);
        chanceDue("k one more", x, of(calm, 1, 2), 0, 1);
        chanceDue("k 0: all", x, of(MIN, 20, 0), 1, 1);
        chanceDue("k 64: none", x, of(MAX, 20, 64), 0, 1);
        chanceDue("k 63: none", x, of(MAX, 20, 63), 0, 1);
        MightHaveBeenPutUp all = tower();
        chanceDue("the whole wall, k 64", all, of(calm, 20, 64), 0, 1);
        chanceDue("m 1", all, of(calm, 1, 0), 1, 1);
    }

    private static void chanceYears() {
        MightHaveBeenPutUp x = Edge.fresh();
        x.regret(0, 0, 11);
        x.raise(0, 0, 8);
        Edge.rule(x, "firm", "1", "0");
        int calm = 0;
        while (x.drawn(calm, 10) != 1) {
            calm++;
        }
        chanceDue("10 YEARS, FIRM 11", x, of(calm, 1, 1), 1, 1);
        x.set(2, 0, 10);
        chanceDue("10 YEARS, FIRM 10", x, of(calm, 1, 1), 0, 1);
        due("23 9 YEARS, FIRM 10", x.drawn(calm, 9), 1);
    }

    // ---- promise 25: image

    private static void imageEmptyAndFull() {
        MightHaveBeenPutUp x = Edge.fresh();
        due("25 no REGRETS", x.image(), 0);
        due("26 no REGRETS", x.back(), 0);
        for (int one = 0; one < 5; one++) {
            x.regret(one, one, one);
            due("25 how many REGRETS", x.image(), one + 1);
        }
        due("26 five", x.back(), 5);
        MightHaveBeenPutUp y = Scene.make();
        y.image();
        Edge.same("25 nothing else changes", Scene.shown(y), Scene.shown(Scene.make()));
        y.back();
        Edge.same("26 from so to so", Scene.shown(y), Scene.shown(Scene.make()));
    }

    private static void imageAnew() {
        MightHaveBeenPutUp x = Scene.make();
        due("25 a new one in place of the old", x.image(), 3);
        x.set(0, 0, 1);
        due("26 the new one", x.back(), 3);
        due("26 its YEAR", x.told(0, 0), 42);
        due("26 again", x.back(), 3);
        x.regret(0, 0, 0);
        x.regret(0, 0, 0);
        due("26 from five to three", x.back(), 3);
        due("26 three", x.count(0), 3);
    }

    // ---- promise 26: back

    private static MightHaveBeenPutUp withoutImage() {
        MightHaveBeenPutUp x = Edge.fresh();
        x.regret(5, 1, 1);
        x.raise(0, 5, 8);
        x.year();
        x.sheet(0, 0, 3);
        x.feed('h');
        return x;
    }

    private static void backNone() {
        due("26 there is none", Edge.fresh().back(), STATE);
        Edge.refused("26 there is none", EdgesToldTest::withoutImage, x -> x.back(), STATE);
        MightHaveBeenPutUp x = withoutImage();
        x.back();
        due("26 still none", x.back(), STATE);
        due("26 the wall stays", x.count(1), 4);
        x.image();
        due("26 there is one now", x.back(), 1);
    }

    private static void backKeeps() {
        MightHaveBeenPutUp x = Scene.make();
        x.image();
        x.set(0, 0, 999);
        x.set(1, 2, 0);
        x.set(2, 2, 0);
        x.set(3, 63, 0);
        x.set(3, 0, 0);
        x.fell(10);
        x.raise(2, 0, 9);
        x.force(0);
        x.set(0, 0, 0);
        x.year();
        x.regret(5, 5, 5);
        x.raise(3, 0, 13);
        due("26 how many REGRETS", x.back(), 3);
        due("26 those that came go, and their CELLS", x.told(13, 8), NONE);
        MightHaveBeenPutUp y = Scene.make();
        y.image();
        Edge.same("26 all that it keeps", Scene.readOut(x), Scene.readOut(y));
    }

    private static void backLeaves() {
        MightHaveBeenPutUp y = Edge.fresh();
        y.regret(3, 3, 3);
        y.image();
        Check.text(y, "holds 1;fades 1;costs 1;");
        y.force(1);
        Check.feed(y, "abc");
        row(y, 3, 2, 7, 7, 7);
        y.regret(4, 4, 4);
        due("26 one", y.back(), 1);
        due("26 TEXTS stay", y.count(3), 2);
        due("26 THE RULE goes back", y.count(5), 0);
        due("26 THE TAPE stays", y.count(4), 3);
        due("26 SHEETS stay", y.cell(3, 2, 0), 1);
        due("26 the next takes the number", y.regret(5, 5, 5), 1);
        due("26 with its own KIND", y.told(1, 3), 5);
        due("26 the first's KIND", y.told(0, 3), 3);
        due("26 none is PUT UP for it", y.wall(1), 0);
    }

    // ---- promise 27: count

    private static void countBounds() {
        Edge.bounds("27 what", 0, 5, BAD, (x, v) -> x.count(v));
        int[] first = {0, 0, 0, 1, 0, 0};
        int[] scene = {3, 10, 75, 2, 24, 1};
        for (int what = 0; what < 6; what++) {
            due("27 at first, what " + what, Edge.fresh().count(what), first[what]);
            due("27 what " + what, Scene.make().count(what), scene[what]);
        }
    }

    private static void countLeastAndMost() {
        due("27 five REGRETS", Scene.fullOfRegrets().count(0), 5);
        due("27 63 CELLS", tower().count(1), 63);
        due("27 six TEXTS", Scene.fullOfTexts().count(3), 6);
        due("27 160 bytes", Scene.fullTape().count(4), 160);
        MightHaveBeenPutUp x = Scene.fullOfTexts();
        x.force(5);
        due("27 TEXT 5 is THE RULE", x.count(5), 5);
        MightHaveBeenPutUp y = Edge.fresh();
        for (int one = 0; one < 5; one++) {
            y.regret(0, 0, 0);
        }
        Edge.rule(y, "0", "0", "999");
        for (int i = 0; i < 21; i++) {
            y.year();
        }
        due("27 PAID at most", y.count(2), 99999);
    }
}
