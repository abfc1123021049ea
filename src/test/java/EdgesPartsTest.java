/** The boundary cases of promises 9 to 14, a test for each sentence that names one. */
public final class EdgesPartsTest {
    private static final int BAD = Edge.BAD, STATE = Edge.STATE;
    private static final long NO = Edge.NO;
    private static final int PARTS = 6;

    public static void main(String[] args) {
        raiseBounds();
        raiseOnTheWall();
        raiseOntoNothing();
        raiseBeside();
        raiseForOne();
        fellBounds();
        fellHowMany();
        fellHeld();
        roomBounds();
        roomByOneCell();
        roomEmptyAndFull();
        yearBounds();
        yearFirm();
        yearPaid();
        yearHolds();
        yearFalls();
        yearByNumbers();
        yearToldThen();
        runBounds();
        runYears();
        runInThought();
        laterBounds();
        laterYears();
        Check.end("EdgesPartsTest");
    }

    private static void due(String sentence, long got, long want) {
        Edge.due(sentence, got, want);
    }

    // ---- promise 9: raise

    private static void raiseBounds() {
        Edge.bounds("9 for one", 0, 2, BAD, (x, v) -> x.raise(v, 0, 9));
        Edge.bounds("9 a PART", 0, 5, BAD, (x, v) -> x.raise(0, v, 12));
        Edge.bounds("9 a CELL", 0, 63, BAD, (x, v) -> x.raise(0, 0, v));
        due("9 no REGRETS", Edge.fresh().raise(0, 0, 8), BAD);
        Edge.refused("9 BAD one ahead of STATE", x -> x.raise(3, 0, 0), BAD);
        Edge.refused("9 BAD PART ahead of STATE", x -> x.raise(0, 6, 0), BAD);
        Edge.refused("9 BAD CELL, CELL 0 isn't meant", x -> x.raise(0, 0, 64), BAD);
        Edge.refused("9 BAD CELL, CELL 9 isn't meant", x -> x.raise(0, 0, 73), BAD);
        Edge.refused("9 HOUSE", x -> x.raise(0, 0, 0), STATE);
        Edge.refused("9 HOUSE at CELL 63", x -> x.raise(0, 0, 63), STATE);
        Edge.refused("9 its own", x -> x.raise(0, 0, 8), STATE);
        Edge.refused("9 another's", x -> x.raise(1, 0, 8), STATE);
        Edge.refused("9 nothing BESIDE", x -> x.raise(0, 0, 45), STATE);
        for (int part = 1; part < PARTS; part++) {
            int tried = part;
            Edge.refused("9 a PART of which one CELL STANDS", x -> x.raise(0, tried, 9 - (tried == 4 ? 1 : 0)),
                STATE);
        }
    }

    /** The last place at which a PART goes in ROW 1, and in COLUMN 1 beside a COLUMN of HOUSE. */
    private static void raiseOnTheWall() {
        int[] lastInRow = {15, 14, 14, 13, 15, 14};
        int[] lastInColumn = {57, 57, 49, 57, 41, 49};
        int[] size = {1, 2, 3, 3, 3, 4};
        for (int part = 0; part < PARTS; part++) {
            for (int at = 8; at < 16; at++) {
                MightHaveBeenPutUp x = Edge.fresh();
                x.regret(0, 0, 0);
                due("9 PART " + part + " on the wall AT " + at, x.raise(0, part, at),
                    at <= lastInRow[part] ? size[part] : STATE);
                due("9 so many", x.count(1), at <= lastInRow[part] ? size[part] : 0);
            }
            for (int at = 1; at < 64; at += 8) {
                MightHaveBeenPutUp x = Edge.house(0, 8, 16, 24, 32, 40, 48, 56);
                x.regret(0, 0, 0);
                due("9 PART " + part + " on the wall AT " + at, x.raise(0, part, at),
                    at <= lastInColumn[part] ? size[part] : STATE);
                due("9 so many", x.count(1), at <= lastInColumn[part] ? size[part] : 0);
            }
        }
    }

    /** None of it STANDS: each CELL of each PART once HOUSE, once another's. */
    private static void raiseOntoNothing() {
        for (int part = 0; part < PARTS; part++) {
            int[] cells = Edge.partAt(part, 9);
            for (int cell : cells) {
                MightHaveBeenPutUp x = Edge.fresh();
                x.regret(0, 0, 0);
                x.set(3, cell, 1);
                due("9 HOUSE at " + cell + ", PART " + part, x.raise(0, part, 9), STATE);
                due("9 nothing of it is PUT UP", x.wall(0), 0);
                x.set(3, cell, 0);
                due("9 HOUSE no more", x.raise(0, part, 9), cells.length);
                MightHaveBeenPutUp y = Edge.fresh();
                y.regret(0, 0, 0);
                y.regret(0, 0, 0);
                if (cell > 15) {
                    // what holds it stands outside of every PART AT 9
                    y.set(3, cell == 18 ? 19 : cell - 1, 1);
                }
                y.raise(1, 0, cell);
                due("9 another's at " + cell + ", PART " + part, y.raise(0, part, 9), STATE);
                due("9 nothing of it is PUT UP", y.wall(0), 0);
                due("9 another's stays", y.wall(1), Check.cells(cell));
            }
        }
    }

    /** One CELL of HOUSE alone: BESIDE any of it, not aslant, not over a side. */
    private static void raiseBeside() {
        int[] places = {0, 7, 8, 15, 27, 48, 55, 56, 63};
        for (int part = 0; part < PARTS; part++) {
            for (int at : places) {
                for (int house = 0; house < 64; house++) {
                    MightHaveBeenPutUp x = Edge.house(house);
                    x.regret(0, 0, 0);
                    boolean can = Edge.canGo(part, at, 1L << house);
                    due("9 PART " + part + " AT " + at + ", HOUSE " + house, x.raise(0, part, at),
                        can ? Edge.partAt(part, at).length : STATE);
                    due("9 what STANDS then", x.wall(-2),
                        1L << house | (can ? Check.cells(Edge.partAt(part, at)) : 0));
                }
            }
        }
    }

    private static void raiseForOne() {
        MightHaveBeenPutUp x = Scene.make();
        due("9 how many for it", x.raise(0, 0, 9), 4);
        due("9 how many for it", x.raise(1, 0, 12), 5);
        due("9 how many for it, by what one has", x.raise(0, 0, 20), 5);
        due("9 FIRM 0 or not: truly", x.count(1), 13);
        x.set(2, 2, 0);
        due("9 more than it HOLDS, till a YEAR", x.raise(2, 0, 22), 4);
        MightHaveBeenPutUp y = Edge.house(0);
        y.regret(5, 0, 0);
        for (int cell = 1; cell < 64; cell++) {
            due("9 one more", y.raise(0, 0, cell), cell);
        }
        due("9 all STANDS", y.wall(-2), -1L);
        due("9 no place more", y.raise(0, 0, 63), STATE);
    }

    // ---- promise 10: fell

    private static void fellBounds() {
        Edge.outside("10 a CELL", 0, 63, BAD, (x, v) -> x.fell(v));
        Edge.refused("10 CELL 8 isn't meant", x -> x.fell(72), BAD);
        int[] notPutUp = {0, 7, 63, 9, 12, 17, 32, 62};
        for (int cell : notPutUp) {
            Edge.refused("10 it isn't PUT UP: " + cell, x -> x.fell(cell), STATE);
        }
        due("10 no REGRETS", Edge.fresh().fell(8), STATE);
        MightHaveBeenPutUp x = Edge.house(1, 62);
        x.regret(5, 0, 0);
        x.raise(0, 0, 0);
        x.raise(0, 0, 63);
        due("10 CELL 0", x.fell(0), 1);
        due("10 CELL 0 again", x.fell(0), STATE);
        due("10 CELL 63", x.fell(63), 1);
        due("10 CELL 63 again", x.fell(63), STATE);
    }

    private static void fellHowMany() {
        int[] falls = {3, 2, 1};
        int[] cells = {8, 16, 24};
        for (int i = 0; i < cells.length; i++) {
            MightHaveBeenPutUp x = Scene.make();
            due("10 how many, from " + cells[i], x.fell(cells[i]), falls[i]);
            due("10 for the first", x.told(0, 7), 3 - falls[i]);
            due("10 none of the others'", x.count(1), 10 - falls[i]);
        }
        MightHaveBeenPutUp y = Scene.make();
        y.raise(1, 3, 25);
        y.raise(2, 0, 35);
        due("10 the beam is held by 18 and 19", y.fell(24), 1);
        due("10 all but it", y.count(1), 13);
        due("10 the beam is held by 19", y.fell(18), 1);
        due("10 all but it", y.told(1, 7), 6);
        due("10 the beam, and another's on it", y.fell(19), 5);
        due("10 what is left", y.wall(-2), 255L | Check.cells(8, 16, 10, 11, 15, 23, 31, 63));
    }

    /** A ring: by either way it is held. */
    private static void fellHeld() {
        int[] ring = {8, 16, 24, 25, 26, 18, 10};
        for (int cell : ring) {
            MightHaveBeenPutUp x = Edge.fresh();
            x.regret(5, 0, 0);
            x.regret(5, 0, 0);
            x.raise(0, 4, 8);
            x.raise(1, 4, 10);
            x.raise(0, 0, 25);
            due("10 held by the other way", x.fell(cell), 1);
            due("10 all but it", x.count(1), 6);
        }
        MightHaveBeenPutUp x = Edge.fresh();
        x.regret(5, 0, 0);
        for (int at = 8; at < 64; at++) {
            x.raise(0, 0, at);
        }
        for (int cell = 8; cell < 15; cell++) {
            due("10 held at the last foot", x.fell(cell), 1);
        }
        due("10 and then all FALLS", x.fell(15), 49);
        due("10 nothing is PUT UP", x.count(1), 0);
    }

    // ---- promise 11: room

    private static void roomBounds() {
        Edge.bounds("11 a PART", 0, 5, NO, (x, v) -> x.room(v));
        for (int part = 0; part < PARTS; part++) {
            int asked = part;
            Edge.onlyAsks("11 where it CAN go", x -> x.room(asked));
        }
    }

    private static long roomOf(int part, long stands) {
        long room = 0;
        for (int at = 0; at < 64; at++) {
            room |= Edge.canGo(part, at, stands) ? 1L << at : 0;
        }
        return room;
    }

    private static void roomByOneCell() {
        for (int house = 0; house < 64; house++) {
            MightHaveBeenPutUp x = Edge.house(house);
            MightHaveBeenPutUp y = Edge.allHouseBut(house, (house + 1) % 64, (house + 9) % 64, (house + 8) % 64);
            for (int part = 0; part < PARTS; part++) {
                due("11 PART " + part + ", HOUSE " + house, x.room(part), roomOf(part, x.wall(-2)));
                due("11 PART " + part + ", but for four " + house, y.room(part), roomOf(part, y.wall(-2)));
            }
        }
    }

    private static void roomEmptyAndFull() {
        MightHaveBeenPutUp none = Edge.house();
        MightHaveBeenPutUp all = Edge.allHouseBut();
        MightHaveBeenPutUp last = Edge.allHouseBut(63);
        for (int part = 0; part < PARTS; part++) {
            due("11 nothing STANDS", none.room(part), 0);
            due("11 all STANDS", all.room(part), 0);
            due("11 CELL 63 alone is left", last.room(part), part == 0 ? Long.MIN_VALUE : 0);
        }
        MightHaveBeenPutUp x = Scene.make();
        for (int part = 0; part < PARTS; part++) {
            due("11 by all that STANDS", x.room(part), roomOf(part, x.wall(-2)));
        }
    }

    // ---- promise 12: year

    private static void yearBounds() {
        Edge.refused("12 YEAR is 999", () -> Scene.inYear(999), x -> x.year(), STATE);
        due("12 YEAR is 999, no REGRETS", yearsOf(999).year(), STATE);
        MightHaveBeenPutUp x = Scene.inYear(998);
        due("12 YEAR is 998", x.year(), 0);
        due("12 it is 999 then", x.told(0, 0), 999);
        due("12 FIRM went too", x.told(0, 2), 18);
        due("12 no YEAR more", x.year(), STATE);
        due("12 FIRM stays", x.told(0, 2), 18);
        x.set(0, 0, 0);
        due("12 YEAR is 0", x.year(), 0);
        due("12 it is 1 then", x.told(0, 0), 1);
        MightHaveBeenPutUp y = Edge.fresh();
        for (int year = 1; year < 100; year++) {
            due("12 no REGRETS: none FALLS", y.year(), 0);
            due("12 no REGRETS: YEAR is 1 more", y.told(0, 0), year);
        }
        due("12 nothing was PAID", y.count(2), 0);
    }

    private static MightHaveBeenPutUp yearsOf(int year) {
        MightHaveBeenPutUp x = Edge.fresh();
        x.set(0, 0, year);
        return x;
    }

    private static void yearFirm() {
        int[] firms = {0, 1, 2, 3, 98, 99};
        int[] then = {0, 0, 0, 1, 96, 97};
        for (int i = 0; i < firms.length; i++) {
            MightHaveBeenPutUp x = Edge.fresh();
            x.regret(0, 0, firms[i]);
            due("12 FIRM " + firms[i], x.year(), 0);
            due("12 FIRM is less, 0 at least", x.told(0, 2), then[i]);
            due("12 and stays so in thought", x.run(0, 40, 3), Math.max(0, then[i] - 80));
        }
        int[] fades = {0, 1, 98, 99, 100};
        int[] left = {99, 98, 1, 0, 0};
        for (int i = 0; i < fades.length; i++) {
            MightHaveBeenPutUp x = Edge.fresh();
            x.regret(0, 0, 99);
            Edge.rule(x, "0", "" + fades[i], "0");
            x.year();
            due("12 fades " + fades[i], x.told(0, 2), left[i]);
        }
    }

    /** PAID is 99900 behind 20 YEARS; then the first alone pays. */
    private static MightHaveBeenPutUp payers(String costs) {
        MightHaveBeenPutUp x = Edge.fresh();
        for (int one = 0; one < 5; one++) {
            x.regret(0, one, 99);
        }
        Edge.rule(x, "0", "1", "999");
        for (int i = 0; i < 20; i++) {
            x.year();
        }
        Edge.rule(x, "0", "1", costs + "*(number=0)");
        return x;
    }

    private static void yearPaid() {
        String[] costs = {"0", "98", "99", "100", "999"};
        int[] paid = {99900, 99998, 99999, 99999, 99999};
        for (int i = 0; i < costs.length; i++) {
            MightHaveBeenPutUp x = payers(costs[i]);
            due("12 PAID ahead of it", x.count(2), 99900);
            due("12 PAID in thought, " + costs[i], x.run(0, 1, 2), paid[i]);
            x.year();
            due("12 PAID, " + costs[i], x.count(2), paid[i]);
            x.year();
            due("12 PAID, 99999 at most, " + costs[i], x.count(2), i == 0 ? 99900 : 99999);
            due("12 PAID in thought stays", x.run(0, 40, 2), i == 0 ? 99900 : 99999);
        }
    }

    /** As long as more CELLS are PUT UP than it HOLDS. */
    private static void yearHolds() {
        for (int holds = 0; holds < 7; holds++) {
            MightHaveBeenPutUp x = Edge.fresh();
            x.regret(0, 0, 99);
            x.raise(0, 3, 8);
            x.raise(0, 1, 11);
            Edge.rule(x, "" + holds, "0", "0");
            due("12 how many FALL, holding " + holds, x.year(), Math.max(0, 5 - holds));
            due("12 the least are left, holding " + holds, x.wall(0), (31L >> Math.max(0, 5 - holds)) << 8);
            due("12 no more FALL", x.year(), 0);
        }
        MightHaveBeenPutUp y = Edge.house(0);
        y.regret(5, 0, 0);
        for (int cell = 1; cell < 64; cell++) {
            y.raise(0, 0, cell);
        }
        Edge.rule(y, "0", "99", "999");
        due("12 SAWDUST holds all", y.year(), 0);
        MightHaveBeenPutUp z = Edge.house(0);
        z.regret(0, 0, 64);
        for (int cell = 1; cell < 64; cell++) {
            z.raise(0, 0, cell);
        }
        due("12 FIRM 64, then 62", z.year(), 1);
        due("12 CELL 63 fell", z.wall(0), Long.MAX_VALUE - 1);
        z.set(2, 0, 0);
        due("12 all of it FALLS", z.year(), 62);
    }

    private static void yearFalls() {
        MightHaveBeenPutUp x = Edge.fresh();
        x.regret(0, 0, 99);
        x.regret(5, 0, 0);
        x.raise(0, 0, 15);
        x.raise(0, 4, 8);
        x.raise(1, 1, 25);
        x.raise(1, 0, 9);
        Edge.rule(x, "3", "0", "0");
        due("12 the greatest FALLS, and what it held", x.year(), 3);
        due("12 not the first in its COLUMN, but the highest ROW", x.wall(0), Check.cells(8, 15, 16));
        due("12 another's that is held stays", x.wall(1), Check.cells(9));
        MightHaveBeenPutUp y = Edge.house(8);
        y.regret(0, 0, 99);
        y.raise(0, 0, 0);
        y.raise(0, 3, 1);
        Edge.rule(y, "3", "0", "0");
        due("12 the greatest in a ROW", y.year(), 1);
        due("12 it was the last COLUMN", y.wall(0), Check.cells(0, 1, 2));
        MightHaveBeenPutUp w = Edge.house(1);
        w.regret(0, 0, 0);
        w.raise(0, 0, 0);
        due("12 CELL 0 alone FALLS too", w.year(), 1);
        due("12 nothing is PUT UP", w.wall(0), 0);
        MightHaveBeenPutUp z = Edge.house(63);
        z.regret(0, 0, 99);
        z.raise(0, 4, 39);
        Edge.rule(z, "2", "0", "0");
        due("12 the greatest holds the others: all FALL", z.year(), 3);
        due("12 nothing hangs from nothing", z.wall(-2), Long.MIN_VALUE);
    }

    private static void yearByNumbers() {
        MightHaveBeenPutUp x = Edge.fresh();
        x.regret(0, 0, 99);
        x.regret(0, 1, 99);
        x.raise(1, 0, 8);
        x.raise(0, 0, 16);
        Edge.rule(x, "number=0", "0", "parts*10+(paid<10)");
        due("12 the second's foot FALLS: both", x.year(), 2);
        due("12 the first paid 11, the second 10", x.count(2), 21);
        MightHaveBeenPutUp y = Edge.fresh();
        y.regret(0, 1, 99);
        y.regret(0, 0, 99);
        y.raise(0, 0, 8);
        y.raise(1, 0, 16);
        Edge.rule(y, "number=0", "0", "parts*10+(paid<10)");
        due("12 the first's foot FALLS: both", y.year(), 2);
        due("12 the first paid 11, the second 0", y.count(2), 11);
    }

    private static void yearToldThen() {
        MightHaveBeenPutUp x = Edge.fresh();
        x.regret(0, 0, 10);
        x.raise(0, 3, 8);
        Edge.rule(x, "firm-7", "1", "0");
        due("12 HOLDS is told behind FADES", x.year(), 1);
        MightHaveBeenPutUp y = Edge.fresh();
        y.regret(0, 0, 10);
        y.raise(0, 3, 8);
        Edge.rule(y, "2+(parts=2)*-1", "0", "0");
        due("12 told anew each time", y.year(), 2);
        MightHaveBeenPutUp z = Edge.fresh();
        z.regret(0, 0, 10);
        z.raise(0, 3, 8);
        Edge.rule(z, "3-paid", "paid", "firm*(paid=0)*0+(firm=10)");
        due("12 HOLDS is told behind COSTS", z.year(), 1);
        due("12 FADES ahead of COSTS", z.told(0, 2), 10);
        due("12 COSTS ahead of FADES", z.count(2), 1);
        z.year();
        due("12 COSTS told of FIRM as it was", z.count(2), 2);
        due("12 FADES told of PAID as it was", z.told(0, 2), 9);
        MightHaveBeenPutUp w = Edge.fresh();
        w.regret(1, 0, 0);
        w.raise(0, 5, 8);
        w.set(0, 0, 8);
        due("12 YEAR 8: a BOY holds 4", w.year(), 0);
        due("12 YEAR 9: YEAR is 1 more at last", w.year(), 0);
        due("12 YEAR 10", w.year(), 4);
    }

    // ---- promise 13: run

    private static void runBounds() {
        for (int what = 0; what < 4; what++) {
            int asked = what;
            Edge.bounds("13 one, what " + what, 0, 2, BAD, (x, v) -> x.run(v, 1, asked));
            Edge.bounds("13 n, what " + what, 0, 40, BAD, (x, v) -> x.run(0, v, asked));
            due("13 no REGRETS, what " + what, Edge.fresh().run(0, 0, what), BAD);
            Edge.onlyAsks("13 in thought", x -> x.run(1, 40, asked));
        }
        Edge.bounds("13 what", 0, 3, BAD, (x, v) -> x.run(0, 1, v));
        due("13 the fifth", Scene.fullOfRegrets().run(4, 0, 3), 2);
        due("13 no sixth", Scene.fullOfRegrets().run(5, 0, 3), BAD);
    }

    /** The scene's first: FIRM 19, HOLDS FIRM + 1; the second FIRM 6 with 4 CELLS; the third a VIEW of FIRM 5. */
    private static void runYears() {
        MightHaveBeenPutUp x = Scene.make();
        int[] n = {0, 1, 3, 4, 18, 19, 20, 39, 40};
        for (int i = 0; i < n.length; i++) {
            int first = Math.min(3, Math.max(0, 19 - n[i]) + 1);
            int second = Math.min(4, Math.max(0, 6 - n[i]) + 1);
            due("13 for the first behind " + n[i], x.run(0, n[i], 1), first);
            due("13 for the second behind " + n[i], x.run(1, n[i], 1), second);
            due("13 FIRM behind " + n[i], x.run(0, n[i], 3), Math.max(0, 19 - n[i]));
            due("13 together behind " + n[i], x.run(2, n[i], 0), first + second + x.run(2, n[i], 1));
        }
        due("13 n 0: PAID", x.run(0, 0, 2), 75);
        due("13 n 1: PAID", x.run(0, 1, 2), 150);
        due("13 n 40: truly as many", x.run(0, 40, 0), truly(40, 1));
        due("13 n 40: truly PAID", x.run(0, 40, 2), truly(40, 2));
        due("13 n 39: truly PAID", x.run(0, 39, 2), truly(39, 2));
        due("13 behind 18", x.run(0, 18, 0), 2 + 1 + 3);
    }

    private static int truly(int n, int what) {
        MightHaveBeenPutUp x = Scene.make();
        for (int i = 0; i < n; i++) {
            x.year();
        }
        return x.count(what);
    }

    private static void runInThought() {
        MightHaveBeenPutUp x = Scene.inYear(999);
        due("13 n 0 in YEAR 999", x.run(0, 0, 3), 19);
        due("13 n 1 in YEAR 999", x.run(0, 1, 3), 18);
        due("13 n 40 in YEAR 999", x.run(0, 40, 3), 0);
        due("13 YEAR stays 999", x.told(0, 0), 999);
        due("13 in thought only", x.told(0, 2), 19);
        MightHaveBeenPutUp y = Edge.fresh();
        y.regret(0, 0, 99);
        y.set(0, 0, 997);
        Edge.rule(y, "0", "0", "1+(year=1000)*10+(999<year)*100");
        int[] paid = {0, 1, 2, 3, 114, 215};
        for (int n = 0; n < paid.length; n++) {
            due("13 YEAR is 1 more, in thought beyond 999 too", y.run(0, n, 2), paid[n]);
        }
    }

    // ---- promise 14: later

    private static void laterBounds() {
        Edge.bounds("14 n", 0, 40, NO, (x, v) -> x.later(v));
        Edge.onlyAsks("14 in thought", x -> x.later(40));
        due("14 no REGRETS, n 0", Edge.fresh().later(0), 255);
        due("14 no REGRETS, n 40", Edge.fresh().later(40), 255);
        due("14 no REGRETS, n 41", Edge.fresh().later(41), NO);
        due("14 nothing STANDS", Edge.house().later(40), 0);
        due("14 all STANDS", Edge.allHouseBut().later(40), -1L);
    }

    private static void laterYears() {
        MightHaveBeenPutUp x = Edge.fresh();
        x.regret(0, 0, 41);
        x.raise(0, 1, 8);
        Edge.rule(x, "firm", "1", "0");
        due("14 n 0", x.later(0), 255L | Check.cells(8, 9));
        due("14 n 39", x.later(39), 255L | Check.cells(8, 9));
        due("14 n 40", x.later(40), 255L | Check.cells(8));
        x.set(2, 0, 40);
        due("14 n 39", x.later(39), 255L | Check.cells(8));
        due("14 n 40", x.later(40), 255L);
        x.set(0, 0, 999);
        due("14 in YEAR 999", x.later(40), 255L);
        due("14 truly all STANDS", x.wall(-2), 255L | Check.cells(8, 9));
    }
}
