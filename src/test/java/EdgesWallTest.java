/** The boundary cases of promises 1 to 5, a test for each sentence that names one. */
public final class EdgesWallTest {
    private static final int NONE = Edge.NONE, BAD = Edge.BAD, STATE = Edge.STATE, FULL = Edge.FULL;
    private static final long NO = Edge.NO;
    private static final int MIN = Edge.MIN, MAX = Edge.MAX;

    public static void main(String[] args) {
        newHouse();
        newEmpty();
        newRule();
        newApart();
        lastCall();
        setWhat();
        setYear();
        setNumberAndFirm();
        setHouseBounds();
        setHousePutUp();
        setHouseWas();
        setHouseFalls();
        setHouseHeldByOthers();
        regretBounds();
        regretFull();
        toldBounds();
        toldWhose();
        holdsBounds();
        holdsOfKinds();
        fadesBounds();
        fadesOfKinds();
        costsBounds();
        costsOfKinds();
        wallBounds();
        wallAllBits();
        Check.end("EdgesWallTest");
    }

    private static void due(String sentence, long got, long want) {
        Edge.due(sentence, got, want);
    }

    // ---- promise 1: ROW 0 is HOUSE, no REGRETS

    private static void newHouse() {
        MightHaveBeenPutUp x = Edge.fresh();
        for (int cell = 0; cell < 64; cell++) {
            due("1 ROW 0 is HOUSE: " + cell, x.told(cell, 8), cell < 8 ? 9 : NONE);
        }
        due("1 all that STANDS", x.wall(-2), 255);
    }

    private static void newEmpty() {
        MightHaveBeenPutUp x = Edge.fresh();
        due("1 no REGRETS", x.count(0), 0);
        due("1 no REGRETS: wall", x.wall(0), NO);
        for (int what = 1; what < 8; what++) {
            due("1 no REGRETS: told " + what, x.told(0, what), BAD);
        }
        due("1 no REGRETS: taken", x.taken(0, 0), Edge.NOTHING);
        due("1 YEAR 0 at first", x.told(0, 0), 0);
        due("1 nothing is PUT UP", x.count(1), 0);
        due("1 PAID 0 at first", x.count(2), 0);
        due("1 TEXT 0 alone", x.count(3), 1);
        due("1 TEXT 0 is THE RULE", x.count(5), 0);
        due("1 THE TAPE is empty", x.count(4), 0);
        due("1 the empty TAPE ends too early", x.text(), -100);
        due("1 no IMAGE", x.back(), STATE);
        for (int sheet = 0; sheet < 4; sheet++) {
            due("1 all SHEETS are missing", x.cell(sheet, 0, 0), Edge.NOTHING);
        }
        due("1 the first is numbered 0", x.regret(0, 0, 0), 0);
    }

    /** TEXT 0: holds firm ; fades 2 ; costs parts ; */
    private static void newRule() {
        int[] firms = {0, 1, 64, 65, 99};
        for (int firm : firms) {
            MightHaveBeenPutUp x = Edge.fresh();
            x.regret(0, 7, firm);
            due("1 TEXT 0 holds firm", x.told(0, 4), Math.min(64, firm));
            due("1 TEXT 0 fades 2", x.told(0, 5), 2);
            due("1 TEXT 0 costs parts: none", x.told(0, 6), 0);
            x.raise(0, 5, 8);
            due("1 TEXT 0 costs parts: four", x.told(0, 6), 4);
            due("1 TEXT 0 fades 2 still", x.told(0, 5), 2);
        }
    }

    private static void newApart() {
        MightHaveBeenPutUp one = Scene.make();
        MightHaveBeenPutUp other = Edge.fresh();
        due("1 apart: YEAR", other.told(0, 0), 0);
        due("1 apart: HOUSE", other.wall(-2), 255);
        due("1 apart: TEXTS", other.count(3), 1);
        due("1 apart: THE TAPE", other.count(4), 0);
        other.regret(5, 1, 1);
        other.sheet(3, 0, 40);
        Edge.same("1 apart", Scene.readOut(one), Scene.readOut(Scene.make()));
    }

    /** An object is used for at most 512 calls: the last of them is answered as the first. */
    private static void lastCall() {
        MightHaveBeenPutUp x = Edge.fresh();
        x.regret(0, 0, 99);
        x.raise(0, 4, 8);
        for (int call = 3; call <= 510; call++) {
            due("call " + call, x.set(0, 0, call), call == 3 ? 0 : call - 1);
        }
        due("call 511", x.year(), 0);
        due("call 512", x.wall(0), Check.cells(8, 16, 24));
    }

    // ---- promise 2: set

    private static void setWhat() {
        Edge.bounds("2 what", 0, 3, BAD, (x, v) -> x.set(v, 0, 0));
    }

    private static void setYear() {
        Edge.bounds("2 YEAR", 0, 999, BAD, (x, v) -> x.set(0, 0, v));
        int[] whatever = {MIN, -1, 3, 5, 64, MAX};
        for (int of : whatever) {
            MightHaveBeenPutUp x = Scene.make();
            due("2 of does not matter: " + of, x.set(0, of, 999), 42);
            due("2 of does not matter: " + of, x.set(0, of, 0), 999);
            due("2 YEAR becomes v", x.told(of, 0), 0);
            due("2 without REGRETS too", Edge.fresh().set(0, of, 1), 0);
        }
    }

    private static void setNumberAndFirm() {
        Edge.bounds("2 NUMBER", 0, 9, BAD, (x, v) -> x.set(1, 2, v));
        Edge.bounds("2 NUMBER of one", 0, 2, BAD, (x, v) -> x.set(1, v, 4));
        Edge.bounds("2 FIRM", 0, 99, BAD, (x, v) -> x.set(2, 2, v));
        Edge.bounds("2 FIRM of one", 0, 2, BAD, (x, v) -> x.set(2, v, 4));
        due("2 NUMBER, no REGRETS", Edge.fresh().set(1, 0, 0), BAD);
        due("2 FIRM, no REGRETS", Edge.fresh().set(2, 0, 0), BAD);
        MightHaveBeenPutUp x = Scene.make();
        due("2 what it was: NUMBER", x.set(1, 2, 0), 9);
        due("2 what it was: NUMBER 0", x.set(1, 2, 9), 0);
        due("2 what it was: FIRM", x.set(2, 2, 99), 5);
        due("2 what it was: FIRM 99", x.set(2, 2, 0), 99);
        due("2 NUMBER becomes v", x.told(2, 1), 9);
        due("2 FIRM becomes v", x.told(2, 2), 0);
        due("2 not the others' NUMBER", x.told(1, 1), 0);
        due("2 not the others' FIRM", x.told(0, 2), 19);
        due("2 FIRM 0 lets nothing fall now", x.count(1), 10);
    }

    private static void setHouseBounds() {
        Edge.bounds("2 a CELL", 0, 63, BAD, (x, v) -> x.set(3, v, 1));
        Edge.bounds("2 HOUSE 1, 0", 0, 1, BAD, (x, v) -> x.set(3, 5, v));
        Edge.refused("2 no such CELL, 0", x -> x.set(3, 64, 0), BAD);
        Edge.refused("2 no such CELL, wrong v", x -> x.set(3, -1, 2), BAD);
        Edge.refused("2 no such CELL that a shift takes for 0", x -> x.set(3, 128, 1), BAD);
    }

    private static void setHousePutUp() {
        int[] putUp = {8, 16, 24, 10, 11, 18, 19, 15, 23, 31};
        for (int cell : putUp) {
            Edge.refused("2 a CELL that is PUT UP: " + cell, x -> x.set(3, cell, 1), BAD);
            Edge.refused("2 a CELL that is PUT UP, 0: " + cell, x -> x.set(3, cell, 0), BAD);
        }
        Edge.refused("2 a CELL that is PUT UP, wrong v", x -> x.set(3, 8, 2), BAD);
        MightHaveBeenPutUp x = Scene.make();
        x.fell(31);
        due("2 it isn't PUT UP any more", x.set(3, 31, 1), 0);
        due("2 and is HOUSE then", x.told(31, 8), 9);
    }

    private static void setHouseWas() {
        MightHaveBeenPutUp x = Scene.make();
        due("2 no HOUSE stays none", x.set(3, 9, 0), 0);
        due("2 no HOUSE becomes HOUSE", x.set(3, 9, 1), 0);
        due("2 HOUSE stays HOUSE", x.set(3, 9, 1), 1);
        due("2 HOUSE becomes none", x.set(3, 9, 0), 1);
        due("2 nothing else changed", x.wall(-1), 255L | 1L << 63);
        due("2 HOUSE at CELL 63", x.set(3, 63, 0), 1);
        due("2 HOUSE at CELL 62", x.set(3, 62, 1), 0);
        due("2 one CELL each", x.wall(-1), 255L | 1L << 62);
    }

    private static void setHouseFalls() {
        MightHaveBeenPutUp x = Scene.make();
        x.set(3, 1, 0);
        due("2 another's foot: nothing FALLS", x.count(1), 10);
        x.set(3, 2, 0);
        due("2 the half of a foot: nothing FALLS", x.wall(1), Check.cells(10, 11, 18, 19));
        x.set(3, 3, 0);
        due("2 the other half: it FALLS", x.wall(1), 0);
        due("2 the others stand", x.count(1), 6);
        x.set(3, 0, 0);
        due("2 the whole post FALLS", x.wall(0), 0);
        due("2 whoever it was PUT UP for", x.count(1), 3);
        x.set(3, 7, 0);
        due("2 nothing is left", x.count(1), 0);
        due("2 HOUSE doesn't FALL", x.wall(-2), Check.cells(4, 5, 6, 63));
        x.set(3, 2, 1);
        due("2 what fell stays away", x.count(1), 0);
    }

    private static void setHouseHeldByOthers() {
        MightHaveBeenPutUp x = Edge.house(0);
        x.regret(5, 0, 0);
        x.regret(5, 0, 0);
        x.raise(0, 1, 1);
        x.raise(1, 1, 3);
        due("2 HOUSE that stands alone", x.set(3, 5, 1), 0);
        due("2 still held from the other side", x.set(3, 0, 0), 1);
        due("2 all of it", x.wall(-2), Check.cells(1, 2, 3, 4, 5));
        due("2 the last that held", x.set(3, 5, 0), 1);
        due("2 both one's and another's FALL", x.wall(-2), 0);
        MightHaveBeenPutUp y = Edge.house(7);
        y.regret(5, 0, 0);
        y.raise(0, 0, 6);
        y.set(3, 8, 1);
        y.set(3, 7, 0);
        due("2 CELL 8 isn't BESIDE 7, nor holds 6", y.count(1), 0);
    }

    // ---- promise 3: regret

    private static void regretBounds() {
        Edge.bounds("3 KIND", 0, 5, BAD, (x, v) -> x.regret(v, 0, 0));
        Edge.bounds("3 NUMBER", 0, 9, BAD, (x, v) -> x.regret(0, v, 0));
        Edge.bounds("3 FIRM", 0, 99, BAD, (x, v) -> x.regret(0, 0, v));
        int[][] ends = {{0, 0, 0}, {5, 9, 99}, {5, 0, 99}, {0, 9, 0}};
        for (int[] end : ends) {
            MightHaveBeenPutUp x = Scene.make();
            due("3 the number", x.regret(end[0], end[1], end[2]), 3);
            due("3 its KIND", x.told(3, 3), end[0]);
            due("3 its NUMBER", x.told(3, 1), end[1]);
            due("3 its FIRM", x.told(3, 2), end[2]);
            due("3 none is PUT UP as one comes", x.wall(3), 0);
        }
    }

    private static void regretFull() {
        MightHaveBeenPutUp x = Edge.fresh();
        for (int one = 0; one < 5; one++) {
            due("3 numbered from 0", x.regret(5 - one, one, 99 - one), one);
        }
        due("3 5 at most", x.regret(0, 0, 0), FULL);
        due("3 five stay", x.count(0), 5);
        Edge.refused("3 FULL", Scene::fullOfRegrets, y -> y.regret(0, 0, 0), FULL);
        Edge.refused("3 FULL at the bounds", Scene::fullOfRegrets, y -> y.regret(5, 9, 99), FULL);
        Edge.refused("3 BAD KIND ahead of FULL", Scene::fullOfRegrets, y -> y.regret(6, 0, 0), BAD);
        Edge.refused("3 BAD NUMBER ahead of FULL", Scene::fullOfRegrets, y -> y.regret(0, 10, 0), BAD);
        Edge.refused("3 BAD FIRM ahead of FULL", Scene::fullOfRegrets, y -> y.regret(0, 0, 100), BAD);
        MightHaveBeenPutUp y = Scene.fullOfRegrets();
        y.back();
        due("3 room again behind back()", y.regret(0, 0, 0), 2);
    }

    // ---- promise 4: told

    private static void toldBounds() {
        Edge.bounds("4 what", 0, 8, BAD, (x, v) -> x.told(0, v));
        for (int what = 1; what < 8; what++) {
            int asked = what;
            Edge.bounds("4 of one, what " + what, 0, 2, BAD, (x, v) -> x.told(v, asked));
            due("4 no REGRETS, what " + what, Edge.fresh().told(0, what), BAD);
        }
        Edge.bounds("4 a CELL", 0, 63, BAD, (x, v) -> x.told(v, 8));
        int[] whatever = {MIN, -1, 3, 64, MAX};
        for (int of : whatever) {
            due("4 of does not matter: " + of, Scene.make().told(of, 0), 42);
            due("4 of does not matter, no REGRETS: " + of, Edge.fresh().told(of, 0), 0);
            due("4 what 9, of " + of, Scene.make().told(of, 9), BAD);
        }
        MightHaveBeenPutUp x = Scene.fullOfRegrets();
        due("4 the fifth", x.told(4, 3), 2);
        due("4 no sixth", x.told(5, 3), BAD);
    }

    private static void toldWhose() {
        MightHaveBeenPutUp x = Edge.fresh();
        for (int one = 0; one < 5; one++) {
            x.regret(5, 0, 0);
            x.raise(one, 0, 8 + one);
        }
        for (int cell = 0; cell < 8; cell++) {
            due("4 it is HOUSE", x.told(cell, 8), 9);
            due("4 for whom", x.told(8 + cell, 8), cell < 5 ? cell : NONE);
        }
        x.fell(12);
        due("4 nobody's any more", x.told(12, 8), NONE);
        x.set(3, 12, 1);
        due("4 HOUSE now", x.told(12, 8), 9);
        x.set(3, 63, 1);
        due("4 HOUSE at CELL 63", x.told(63, 8), 9);
        due("4 nothing at CELL 62", x.told(62, 8), NONE);
    }

    /** What one of a KIND is told to hold, fade or cost, by an expression. */
    private static void telling(int what, int kind, int[] setting, String expression, int want) {
        MightHaveBeenPutUp x = Edge.fresh();
        x.set(0, 0, setting[0]);
        x.regret(kind, setting[1], setting[2]);
        Edge.rule(x, what == 4 ? expression : "0", what == 5 ? expression : "0", what == 6 ? expression : "0");
        String[] words = {"HOLDS", "FADES", "COSTS"};
        due("4 " + words[what - 4] + " of KIND " + kind + ", YEAR " + setting[0] + ", NUMBER " + setting[1]
            + ", FIRM " + setting[2] + ", telling " + expression, x.told(0, what), want);
    }

    private static void tellings(int what, int kind, int[] setting, String[] expressions, int... wants) {
        for (int i = 0; i < wants.length; i++) {
            telling(what, kind, setting, expressions[i], wants[i]);
        }
    }

    /** Greatest and least int, and 2 to the 30th, which doubled is below 0. */
    private static final String MOST = "8192*8192*32-1", LEAST = "8192*8192*32", HALF = "8192*8192*16";

    private static int[] setting(int year, int number, int firm) {
        return new int[] {year, number, firm};
    }

    private static String[] of(String... expressions) {
        return expressions;
    }

    private static void holdsBounds() {
        tellings(4, 0, setting(0, 9, 9), of("-1", "0", "1", "63", "64", "65", "99", "100", MOST, LEAST),
            0, 0, 1, 63, 64, 64, 64, 64, 64, 0);
        tellings(4, 1, setting(9, 9, 9), of("-1", "-4", "0", "59", "60", "61", "99", "100", MOST, LEAST),
            4, 4, 4, 63, 64, 64, 64, 64, 64, 4);
        tellings(4, 2, setting(0, 9, 9), of("-1", "0", "1", "31", "32", "33", "100", HALF, MOST, LEAST),
            0, 0, 2, 62, 64, 64, 64, 64, 64, 0);
        tellings(4, 4, setting(0, 9, 9), of("-1", "0", "1", "31", "32", "33", "100", HALF, MOST, LEAST),
            0, 0, 2, 62, 64, 64, 64, 64, 64, 0);
        tellings(4, 5, setting(0, 9, 0), of("-1", "0", "63", "64", "65", LEAST), 64, 64, 64, 64, 64, 64);
    }

    private static void holdsOfKinds() {
        for (int kind = 1; kind < 4; kind += 2) {
            int[] years = {0, 9, 10, 11, 999};
            for (int year : years) {
                telling(4, kind, setting(year, 0, 0), "7", year < 10 ? 11 : 7);
            }
        }
        tellings(4, 3, setting(10, 9, 0), of("0", "8", "9", "10", "64", "65", LEAST), 9, 9, 9, 10, 64, 64, 9);
        tellings(4, 3, setting(9, 9, 0), of("0", "4", "5", "6", "60", "61", LEAST), 9, 9, 9, 10, 64, 64, 9);
        tellings(4, 3, setting(9, 0, 0), of("-1", "0"), 4, 4);
        tellings(4, 3, setting(10, 0, 0), of("-1", "0", "1"), 0, 0, 1);
        telling(4, 1, setting(10, 9, 0), "8", 8);
        telling(4, 4, setting(0, 9, 0), "5", 0);
        telling(4, 4, setting(0, 9, 1), "5", 10);
        telling(4, 2, setting(0, 9, 0), "5", 10);
    }

    private static void fadesBounds() {
        tellings(5, 0, setting(0, 1, 9), of("-1", "0", "1", "98", "99", "100", MOST, LEAST),
            0, 0, 1, 98, 99, 99, 99, 0);
        tellings(5, 1, setting(0, 1, 9), of("-1", "0", "98", "99", "100", MOST), 0, 0, 98, 99, 99, 99);
        tellings(5, 2, setting(0, 1, 9), of("-1", "-3", "0", "1", "2", "3", "98", "99", "100", "102", MOST),
            0, 0, 0, 0, 1, 1, 49, 49, 49, 49, 49);
        tellings(5, 3, setting(0, 1, 9), of("-1", "-2", "0", "97", "98", "99", "100", MOST, LEAST),
            1, 1, 1, 98, 99, 99, 99, 99, 1);
        tellings(5, 4, setting(1, 1, 9), of("-1", "0", "1", "2", "3", "99", "100", MOST),
            0, 0, 0, 1, 1, 49, 49, 49);
        tellings(5, 5, setting(1, 1, 9), of("-1", "0", "1", "99", "100"), 0, 0, 0, 0, 0);
    }

    private static void fadesOfKinds() {
        int[] numbers = {0, 1, 9};
        for (int number : numbers) {
            telling(5, 0, setting(0, number, 9), "7", 7);
            telling(5, 1, setting(0, number, 9), "7", number == 0 ? 0 : 7);
            telling(5, 3, setting(0, number, 9), "7", number == 0 ? 1 : 8);
            telling(5, 2, setting(0, number, 9), "7", 3);
        }
        int[] years = {0, 1, 2, 9, 10, 998, 999};
        for (int year : years) {
            telling(5, 4, setting(year, 0, 9), "7", year % 2 == 0 ? 0 : 3);
            telling(5, 2, setting(year, 0, 9), "7", 3);
        }
    }

    private static void costsBounds() {
        tellings(6, 0, setting(0, 9, 9), of("-1", "0", "1", "998", "999", "1000", MOST, LEAST),
            0, 0, 1, 998, 999, 999, 999, 0);
        for (int kind = 1; kind < 4; kind += 2) {
            tellings(6, kind, setting(0, 9, 9), of("-1", "-2", "0", "1", "2", "3", "998", "999", "1000", "1002", MOST),
                0, 0, 0, 0, 1, 1, 499, 499, 499, 499, 499);
        }
        tellings(6, 2, setting(0, 9, 9), of("-1", "-9", "0", "1", "989", "990", "991", "999", "1000", MOST, LEAST),
            9, 9, 9, 10, 998, 999, 999, 999, 999, 999, 9);
        tellings(6, 2, setting(0, 0, 9), of("-1", "0", "998", "999", "1000"), 0, 0, 998, 999, 999);
        tellings(6, 4, setting(0, 9, 9), of("-1", "0", "489", "490", "491", "999", HALF, MOST, LEAST),
            18, 18, 996, 998, 999, 999, 999, 999, 18);
        tellings(6, 4, setting(0, 0, 9), of("-1", "0", "1", "499", "500", "999"), 0, 0, 2, 998, 999, 999);
        tellings(6, 5, setting(0, 9, 9), of("-1", "0", "1", "999", "1000"), 0, 0, 0, 0, 0);
    }

    private static void costsOfKinds() {
        int[] want = {5, 2, 14, 2, 28, 0};
        for (int kind = 0; kind < 6; kind++) {
            telling(6, kind, setting(0, 9, 0), "5", want[kind]);
            telling(6, kind, setting(999, 9, 99), "5", want[kind]);
        }
    }

    // ---- promise 5: wall

    private static void wallBounds() {
        Edge.bounds("5 what", -2, 2, NO, (x, v) -> x.wall(v));
        MightHaveBeenPutUp x = Edge.fresh();
        due("5 no REGRETS: none such", x.wall(0), NO);
        due("5 no REGRETS: HOUSE", x.wall(-1), 255);
        due("5 no REGRETS: all that STANDS", x.wall(-2), 255);
        MightHaveBeenPutUp y = Scene.fullOfRegrets();
        due("5 the fifth", y.wall(4), 0);
        due("5 no sixth", y.wall(5), NO);
        y.back();
        due("5 gone", y.wall(2), NO);
    }

    private static void wallAllBits() {
        MightHaveBeenPutUp x = Edge.house();
        due("5 no HOUSE", x.wall(-1), 0);
        due("5 nothing STANDS", x.wall(-2), 0);
        due("5 CELL 63 alone", Edge.house(63).wall(-2), Long.MIN_VALUE);
        due("5 CELL 0 alone", Edge.house(0).wall(-2), 1);
        due("5 all CELLS", Edge.allHouseBut().wall(-1), -1L);
        MightHaveBeenPutUp y = Edge.house(62);
        y.regret(5, 0, 0);
        y.raise(0, 0, 63);
        due("5 PUT UP at CELL 63", y.wall(0), Long.MIN_VALUE);
        due("5 the two highest, which NO is written as", y.wall(-2), NO);
    }
}
