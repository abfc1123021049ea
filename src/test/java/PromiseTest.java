/** A test or more for each promise: ordinary inputs, the edges that the document names, wrong inputs. */
public final class PromiseTest {
    private static final int NONE = -1, BAD = -2, STATE = -3, FULL = -4;
    private static final int NOTHING = -11, OUTSIDE = -12, UNLIKE = -13, TOO_SMALL = -14;
    private static final long NO = -4611686018427387904L;
    private static final int MIN = Integer.MIN_VALUE, MAX = Integer.MAX_VALUE;

    public static void main(String[] args) {
        newObject();
        set();
        regret();
        toldPlain();
        toldKinds();
        toldBounds();
        wall();
        feed();
        textFaults();
        textDepth();
        textRoom();
        textValues();
        force();
        raise();
        fell();
        room();
        year();
        yearOrder();
        yearBounds();
        run();
        later();
        walk();
        round();
        reach();
        key();
        add();
        share();
        tells();
        tellsRefusals();
        film();
        drawn();
        chance();
        image();
        count();
        sheet();
        cell();
        copy();
        bag();
        taken();
        Check.end("PromiseTest");
    }

    private static void due(String call, long got, long want) {
        Check.due(call, got, want);
    }

    private static MightHaveBeenPutUp fresh() {
        return new MightHaveBeenPutUp();
    }

    // ---- promise 1

    private static void newObject() {
        MightHaveBeenPutUp x = fresh();
        due("1 HOUSE", x.wall(-1), 255L);
        due("1 STANDS", x.wall(-2), 255L);
        due("1 YEAR", x.told(0, 0), 0);
        due("1 no STATE kept", x.back(), STATE);
        int[] counts = {0, 0, 0, 1, 0, 0};
        for (int what = 0; what < counts.length; what++) {
            due("1 count " + what, x.count(what), counts[what]);
        }
        for (int sheet = 0; sheet < 4; sheet++) {
            due("1 missing sheet", x.cell(sheet, 0, 0), NOTHING);
        }
        due("1 TEXT 0 holds", firstOf(x, 0, 7, 31, 4), 31);
        due("1 TEXT 0 fades", x.told(0, 5), 2);
        due("1 TEXT 0 costs", x.told(0, 6), 0);
        x.raise(0, 5, 8);
        due("1 TEXT 0 costs parts", x.told(0, 6), 4);
        due("1 NONE", MightHaveBeenPutUp.NONE, NONE);
        due("1 BAD", MightHaveBeenPutUp.BAD, BAD);
        due("1 STATE", MightHaveBeenPutUp.STATE, STATE);
        due("1 FULL", MightHaveBeenPutUp.FULL, FULL);
        due("1 NO", MightHaveBeenPutUp.NO, NO);
    }

    private static int firstOf(MightHaveBeenPutUp x, int kind, int number, int firm, int what) {
        x.regret(kind, number, firm);
        return x.told(0, what);
    }

    // ---- promise 2

    private static void set() {
        MightHaveBeenPutUp x = fresh();
        due("2 year", x.set(0, -77, 999), 0);
        due("2 year 1000", x.set(0, 0, 1000), BAD);
        due("2 year -1", x.set(0, 0, -1), BAD);
        due("2 year back", x.set(0, 0, 0), 999);
        due("2 no regret", x.set(1, 0, 0), BAD);
        x.regret(0, 3, 50);
        due("2 number", x.set(1, 0, 9), 3);
        due("2 number 10", x.set(1, 0, 10), BAD);
        due("2 number -1", x.set(1, 0, -1), BAD);
        due("2 number of -1", x.set(1, -1, 0), BAD);
        due("2 number of 1", x.set(1, 1, 0), BAD);
        due("2 number stays", x.told(0, 1), 9);
        due("2 firm", x.set(2, 0, 99), 50);
        due("2 firm 100", x.set(2, 0, 100), BAD);
        due("2 firm -1", x.set(2, 0, -1), BAD);
        due("2 firm of 5", x.set(2, 5, 0), BAD);
        due("2 firm stays", x.told(0, 2), 99);
        due("2 what 4", x.set(4, 0, 0), BAD);
        due("2 what -1", x.set(-1, 0, 0), BAD);
        setHouse(x);
    }

    private static void setHouse(MightHaveBeenPutUp x) {
        x.raise(0, 4, 8);
        due("2 put up", x.set(3, 8, 1), BAD);
        due("2 put up 0", x.set(3, 8, 0), BAD);
        due("2 cell -1", x.set(3, -1, 0), BAD);
        due("2 cell 64", x.set(3, 64, 0), BAD);
        due("2 house 2", x.set(3, 0, 2), BAD);
        due("2 house -1", x.set(3, 0, -1), BAD);
        due("2 house", x.set(3, 63, 1), 0);
        due("2 house again", x.set(3, 63, 1), 1);
        due("2 neighbour goes", x.set(3, 1, 0), 1);
        due("2 nothing falls", x.count(1), 3);
        due("2 foot goes", x.set(3, 0, 0), 1);
        due("2 all falls", x.count(1), 0);
        due("2 no house", x.set(3, 0, 0), 0);
        due("2 the house", x.wall(-1), 0xfcL | 1L << 63);
    }

    // ---- promise 3

    private static void regret() {
        MightHaveBeenPutUp x = fresh();
        int[][] bad = {{-1, 0, 0}, {6, 0, 0}, {0, -1, 0}, {0, 10, 0}, {0, 0, -1}, {0, 0, 100}, {MIN, MAX, MIN}};
        for (int[] b : bad) {
            due("3 bad", x.regret(b[0], b[1], b[2]), BAD);
        }
        due("3 none came", x.count(0), 0);
        for (int one = 0; one < 5; one++) {
            due("3 comes", x.regret(one + 1, 9 - one, 99 - one), one);
            due("3 kind", x.told(one, 3), one + 1);
            due("3 number", x.told(one, 1), 9 - one);
            due("3 firm", x.told(one, 2), 99 - one);
            due("3 nothing is put up", x.wall(one), 0);
        }
        due("3 full", x.regret(0, 0, 0), FULL);
        due("3 bad ahead of full", x.regret(6, 0, 0), BAD);
        due("3 five", x.count(0), 5);
    }

    // ---- promise 4

    private static void toldPlain() {
        MightHaveBeenPutUp x = fresh();
        x.regret(0, 1, 2);
        x.regret(5, 3, 4);
        x.raise(1, 1, 10);
        x.set(0, 0, 17);
        due("4 year", x.told(MIN, 0), 17);
        due("4 parts", x.told(1, 7), 2);
        due("4 parts of none", x.told(0, 7), 0);
        due("4 whose", x.told(11, 8), 1);
        x.raise(0, 0, 8);
        due("4 the first one's", x.told(8, 8), 0);
        x.fell(8);
        due("4 house", x.told(7, 8), 9);
        due("4 nobody's", x.told(12, 8), NONE);
        due("4 cell 64", x.told(64, 8), BAD);
        due("4 cell -1", x.told(-1, 8), BAD);
        for (int what = 1; what < 8; what++) {
            due("4 no such", x.told(2, what), BAD);
            due("4 no such", x.told(-1, what), BAD);
        }
        due("4 what 9", x.told(0, 9), BAD);
        due("4 what -1", x.told(0, -1), BAD);
    }

    private static void kindsDue(String words, int what, int[] setting, int... want) {
        for (int kind = 0; kind < 6; kind++) {
            MightHaveBeenPutUp x = fresh();
            x.set(0, 0, setting[0]);
            x.regret(kind, setting[1], setting[2]);
            x.raise(0, 5, 8);
            due("4 " + words + " of kind " + kind, x.told(0, what), want[kind]);
        }
    }

    /** The settings: YEAR, NUMBER, FIRM; four cells are put up. */
    private static void toldKinds() {
        kindsDue("holds, year 0", 4, new int[] {0, 3, 10}, 10, 14, 20, 14, 20, 64);
        kindsDue("holds, year 9", 4, new int[] {9, 3, 10}, 10, 14, 20, 14, 20, 64);
        kindsDue("holds, year 10", 4, new int[] {10, 3, 10}, 10, 10, 20, 10, 20, 64);
        kindsDue("holds, firm 0", 4, new int[] {10, 9, 0}, 0, 0, 0, 9, 0, 64);
        kindsDue("holds, firm 0, year 0", 4, new int[] {0, 3, 0}, 0, 4, 0, 4, 0, 64);
        kindsDue("holds, firm 99", 4, new int[] {0, 9, 99}, 64, 64, 64, 64, 64, 64);
        kindsDue("holds, firm 62", 4, new int[] {0, 9, 62}, 62, 64, 64, 64, 64, 64);
        kindsDue("fades, even year", 5, new int[] {0, 3, 10}, 2, 2, 1, 3, 0, 0);
        kindsDue("fades, odd year", 5, new int[] {7, 3, 10}, 2, 2, 1, 3, 1, 0);
        kindsDue("fades, number 0", 5, new int[] {7, 0, 10}, 2, 0, 1, 1, 1, 0);
        kindsDue("costs", 6, new int[] {7, 3, 10}, 4, 2, 7, 2, 14, 0);
        kindsDue("costs, number 0", 6, new int[] {7, 0, 10}, 4, 2, 4, 2, 8, 0);
    }

    private static void toldBounds() {
        int[][] above = {{64, 99, 999}, {64, 99, 499}, {64, 49, 999}, {64, 99, 499}, {64, 49, 999}, {64, 0, 0}};
        int[][] below = {{0, 0, 0}, {4, 0, 0}, {0, 0, 2}, {4, 1, 0}, {0, 0, 4}, {64, 0, 0}};
        for (int kind = 0; kind < 6; kind++) {
            MightHaveBeenPutUp x = fresh();
            Check.text(x, "holds 5000;fades 5000;costs 9999;");
            Check.text(x, "holds 0-5000;fades -9;costs -9999;");
            x.set(0, 0, 1);
            x.regret(kind, 2, 1);
            for (int i = 0; i < 3; i++) {
                x.force(1);
                due("4 above, kind " + kind, x.told(0, 4 + i), above[kind][i]);
                x.force(2);
                due("4 below, kind " + kind, x.told(0, 4 + i), below[kind][i]);
            }
        }
    }

    // ---- promise 5

    private static void wall() {
        MightHaveBeenPutUp x = fresh();
        due("5 none", x.wall(0), NO);
        x.regret(0, 0, 9);
        x.regret(0, 0, 9);
        x.raise(0, 0, 8);
        x.raise(1, 3, 16);
        x.set(3, 63, 1);
        due("5 first", x.wall(0), Check.cells(8));
        due("5 second", x.wall(1), Check.cells(16, 17, 18));
        due("5 house", x.wall(-1), 255L | 1L << 63);
        due("5 stands", x.wall(-2), 255L | Check.cells(8, 16, 17, 18, 63));
        due("5 no third", x.wall(2), NO);
        due("5 what -3", x.wall(-3), NO);
        due("5 what least", x.wall(MIN), NO);
        due("5 what most", x.wall(MAX), NO);
    }

    // ---- promise 6

    private static void feed() {
        MightHaveBeenPutUp x = fresh();
        due("6 bad 256", x.feed(256), BAD);
        due("6 bad -1", x.feed(-1), BAD);
        due("6 none came", x.count(4), 0);
        for (int i = 1; i <= 160; i++) {
            due("6 feed", x.feed(i == 1 ? 255 : i == 2 ? 0 : 32), i);
        }
        due("6 full", x.feed(32), FULL);
        due("6 bad ahead of full", x.feed(256), BAD);
        due("6 stays", x.count(4), 160);
        due("6 first byte begins none", x.text(), -100);
        due("6 empty", x.count(4), 0);
        due("6 room again", x.feed(1), 1);
    }

    // ---- promise 7

    private static void readDue(String text, int want) {
        MightHaveBeenPutUp x = fresh();
        due("7 text " + text, Check.text(x, text), want);
        due("7 tape of " + text, x.count(4), 0);
        due("7 texts with " + text, x.count(3), want == 1 ? 2 : 1);
    }

    /** An expression, behind the six bytes of "holds "; 0 or more is the place of its fault in it. */
    private static void holdsDue(String expression, int fault) {
        readDue("holds " + expression + ";fades 2;costs 3;", fault == NONE ? 1 : -106 - fault);
    }

    private static void textFaults() {
        readDue("", -100);
        readDue("  \n", -103);
        readDue("holds", -105);
        readDue("holds ", -106);
        readDue("holds firm", -110);
        readDue("holds firm ; fades 2 ; costs parts ;", 1);
        readDue(" \nholds firm;fades 2;costs parts;\n ", 1);
        readDue("holds firm;fades 2;costs parts", -130);
        readDue("holds firm;fades 2;costs parts; ", 1);
        readDue("holds firm;fades 2;costs parts; ;", -132);
        readDue("holds firm;fades 2;costs parts; 4", -132);
        readDue("holds firm;fades 2;costs parts;year", -131);
        readDue("holds firm;fades 2;costs parts;holds", -131);
        readDue("holds firm;costs 2;fades parts;", -111);
        readDue("fades 1;", -100);
        readDue("Holds 1;", -100);
        readDue("hold s 1;", -100);
        readDue("holds1;fades2;costs3;", 1);
        readDue("holdsfirm;", -100);
        readDue("\tholds 1;", -100);
        readDue("holds 1;fades 1;costs 1;\r", -124);
        readDue("holds 1;fades 1;costs 1;" + (char) 233, -124);
        holdsDue("9999", NONE);
        holdsDue("0001", NONE);
        holdsDue("12345", 0);
        holdsDue("1+00000", 2);
        holdsDue("x", 0);
        holdsDue("firms", 0);
        holdsDue("numbers", 0);
        holdsDue("fir", 0);
        holdsDue("girm", 0);
        holdsDue("firmz", 0);
        holdsDue("afirm", 0);
        holdsDue("or", 0);
        holdsDue("holds", 0);
        holdsDue("firm2", 4);
        holdsDue("2firm", 1);
        holdsDue("1 2", 2);
        holdsDue("1<2<3", 3);
        holdsDue("1=2=3", 3);
        holdsDue("1<2=3", 3);
        holdsDue("(1<2)=3", NONE);
        holdsDue("1<not 2", 2);
        holdsDue("1+not 2", 2);
        holdsDue("-not 2", 1);
        holdsDue("1 or not 2 and 3", NONE);
        holdsDue("1 or or 2", 5);
        holdsDue("1 and", 5);
        holdsDue("+1", 0);
        holdsDue("*1", 0);
        holdsDue("()", 1);
        holdsDue("(1", 2);
        holdsDue("1)", 1);
        holdsDue("(1))", 3);
        holdsDue("1 & 2", 2);
        holdsDue("year paid", 5);
        holdsDue("firm number", 5);
        holdsDue("1 not 2", 2);
    }

    private static void textDepth() {
        holdsDue("-----1", NONE);
        holdsDue("------1", 5);
        holdsDue("(((((1)))))", NONE);
        holdsDue("((((((1))))))", 5);
        holdsDue("not not not not not 1", NONE);
        holdsDue("not not not not not not 1", 20);
        holdsDue("-(-(-1))", NONE);
        holdsDue("-(-(-(1)))", 5);
        holdsDue("not(not(not 1))", NONE);
        holdsDue("not(not(not-1))", 11);
        holdsDue("1-----1", NONE);
        holdsDue("1------1", NONE);
        holdsDue("1-------1", 7);
        holdsDue("-1+-1+-1+-1+-1+-1", NONE);
        holdsDue("(1)*(1)*(1)*(1)*(1)*(1)", NONE);
        holdsDue("not 1 and not 1 and not 1 or not 1 or not 1 or not 1", NONE);
        holdsDue("not not not not not 1=-1", 22);
        holdsDue("not not not not not 1 or -1", NONE);
        holdsDue("not not not not 1=-1", NONE);
        holdsDue("((((-1+-1))))", NONE);
        holdsDue("((((--1))))", 5);
        readDue("holds (((((1)))));fades (((((1)))));costs (((((1)))));", 1);
    }

    private static void textRoom() {
        MightHaveBeenPutUp x = fresh();
        for (int text = 1; text < 6; text++) {
            due("7 number", Check.text(x, "holds " + text + ";fades 0;costs 0;"), text);
        }
        Check.feed(x, "holds 1;fades 0;costs 0;");
        due("7 full", x.text(), FULL);
        due("7 tape stays", x.count(4), 24);
        x.feed('?');
        due("7 full with a fault", x.text(), FULL);
        due("7 tape stays", x.count(4), 25);
        due("7 six", x.count(3), 6);
        MightHaveBeenPutUp y = fresh();
        due("7 longest", Check.text(y, "holds 1;fades 0;costs 0" + "+1".repeat(68) + ";"), 1);
        y.force(1);
        y.regret(0, 0, 0);
        due("7 longest costs", y.told(0, 6), 68);
    }

    private static void costsDue(String expression, int want) {
        MightHaveBeenPutUp x = fresh();
        due("7 reads " + expression, Check.text(x, "holds 9;fades 0;costs " + expression + ";"), 1);
        x.regret(0, 7, 42);
        x.raise(0, 4, 9);
        x.raise(0, 0, 14);
        x.set(0, 0, 15);
        x.force(1);
        due("7 value of " + expression, x.told(0, 6), want);
    }

    private static void textValues() {
        costsDue("2+3*4", 14);
        costsDue("(2+3)*4", 20);
        costsDue("10-3-2", 5);
        costsDue("10-(3-2)", 9);
        costsDue("7", 7);
        costsDue("2 or 0", 1);
        costsDue("0 or 0", 0);
        costsDue("0 or 3", 1);
        costsDue("2 and 3", 1);
        costsDue("2 and 0", 0);
        costsDue("0 and 2", 0);
        costsDue("not 2", 0);
        costsDue("not 0", 1);
        costsDue("not not 5", 1);
        costsDue("3<4", 1);
        costsDue("4<4", 0);
        costsDue("5<4", 0);
        costsDue("4=4", 1);
        costsDue("4=5", 0);
        costsDue("1 or 0 and 0", 1);
        costsDue("(1 or 0) and 0", 0);
        costsDue("not 1 = 2", 1);
        costsDue("(not 1) = 2", 0);
        costsDue("not 0 and 0", 0);
        costsDue("-3+5", 2);
        costsDue("-2*-3", 6);
        costsDue("- - 4", 4);
        costsDue("2*3<7", 1);
        costsDue("-1 or 0", 1);
        costsDue("(0-2) and 1", 1);
        costsDue("0-1<0", 1);
        costsDue("9999*9999*9999<0", 9999 * 9999 * 9999 < 0 ? 1 : 0);
        costsDue("9999*9999*9999*9999<0", 9999 * 9999 * 9999 * 9999 < 0 ? 1 : 0);
        costsDue("9999*9999*22<0", 9999 * 9999 * 22 < 0 ? 1 : 0);
        costsDue("firm", 42);
        costsDue("number", 7);
        costsDue("year", 15);
        costsDue("parts", 4);
        costsDue("high", 3);
        costsDue("paid", 0);
        costsDue("firm+number*2-parts", 52);
        costsDue("year<firm and not high=number", 1);
        MightHaveBeenPutUp x = fresh();
        x.regret(0, 0, 0);
        Check.text(x, "holds high+7;fades 0;costs 151;");
        x.force(1);
        due("7 high of none", x.told(0, 4), 7);
        x.year();
        Check.text(x, "holds paid;fades 0;costs 0;");
        x.force(2);
        due("7 paid", x.told(0, 4), 51);
    }

    // ---- promise 8

    private static void force() {
        MightHaveBeenPutUp x = fresh();
        due("8 none", x.force(1), BAD);
        due("8 same", x.force(0), 0);
        Check.text(x, "holds 7;fades 0;costs 0;");
        x.regret(0, 0, 50);
        due("8 one", x.force(1), 0);
        due("8 by it", x.told(0, 4), 7);
        due("8 bad", x.force(2), BAD);
        due("8 bad -1", x.force(-1), BAD);
        due("8 which", x.count(5), 1);
        due("8 back", x.force(0), 1);
        due("8 by the first", x.told(0, 4), 50);
    }

    // ---- promise 9

    private static void raise() {
        long[] parts = {Check.cells(9), Check.cells(9, 10), Check.cells(9, 10, 18), Check.cells(9, 10, 11),
            Check.cells(9, 17, 25), Check.cells(9, 10, 17, 18)};
        for (int part = 0; part < 6; part++) {
            MightHaveBeenPutUp x = fresh();
            x.regret(0, 0, 0);
            x.regret(0, 0, 0);
            due("9 part " + part, x.raise(1, part, 9), Long.bitCount(parts[part]));
            due("9 cells of " + part, x.wall(1), parts[part]);
            due("9 not the other's", x.wall(0), 0);
            due("9 again", x.raise(0, part, 9), STATE);
        }
        MightHaveBeenPutUp x = fresh();
        due("9 nobody", x.raise(0, 0, 8), BAD);
        x.regret(0, 0, 0);
        due("9 one 1", x.raise(1, 0, 8), BAD);
        due("9 one -1", x.raise(-1, 0, 8), BAD);
        due("9 part 6", x.raise(0, 6, 8), BAD);
        due("9 part -1", x.raise(0, -1, 8), BAD);
        due("9 at 64", x.raise(0, 0, 64), BAD);
        due("9 at -1", x.raise(0, 0, -1), BAD);
        due("9 house", x.raise(0, 0, 0), STATE);
        due("9 held by nothing", x.raise(0, 0, 16), STATE);
        due("9 over the side", x.raise(0, 1, 15), STATE);
        due("9 beam over the side", x.raise(0, 3, 14), STATE);
        due("9 beam", x.raise(0, 3, 13), 3);
        due("9 more", x.raise(0, 0, 8), 4);
        due("9 only beside", x.raise(0, 0, 17), STATE);
        due("9 held by a part", x.raise(0, 0, 16), 5);
        x.set(3, 63, 1);
        due("9 over the top", x.raise(0, 4, 55), STATE);
        due("9 below", x.raise(0, 4, 39), 8);
        due("9 window over the top", x.raise(0, 5, 61), STATE);
        due("9 sill at the top", x.raise(0, 1, 61), 10);
    }

    // ---- promise 10

    private static void fell() {
        MightHaveBeenPutUp x = fresh();
        x.regret(0, 0, 9);
        x.regret(0, 0, 9);
        x.raise(0, 4, 8);
        x.raise(1, 3, 25);
        x.raise(1, 0, 15);
        due("10 cell 64", x.fell(64), BAD);
        due("10 cell -1", x.fell(-1), BAD);
        due("10 house", x.fell(0), STATE);
        due("10 nothing", x.fell(9), STATE);
        due("10 an end", x.fell(27), 1);
        due("10 the foot", x.fell(8), 5);
        due("10 the rest", x.wall(-2), 255L | Check.cells(15));
        due("10 fallen", x.fell(8), STATE);
        due("10 its parts", x.told(1, 7), 1);
    }

    // ---- promise 11

    private static void room() {
        MightHaveBeenPutUp x = fresh();
        long[] first = {0xff00L, 0x7f00L, 0x7f00L, 0x3f00L, 0xff00L, 0x7f00L};
        for (int part = 0; part < 6; part++) {
            due("11 part " + part, x.room(part), first[part]);
        }
        due("11 part 6", x.room(6), NO);
        due("11 part -1", x.room(-1), NO);
        for (int cell = 0; cell < 8; cell++) {
            x.set(3, cell, 0);
        }
        due("11 no house", x.room(0), 0);
        x.set(3, 63, 1);
        due("11 nail by the corner", x.room(0), Check.cells(62, 55));
        due("11 sill by the corner", x.room(1), Check.cells(61, 54));
        due("11 tread by the corner", x.room(2), Check.cells(46, 53));
        due("11 beam by the corner", x.room(3), Check.cells(60, 53));
        due("11 post by the corner", x.room(4), Check.cells(39, 46));
        due("11 window by the corner", x.room(5), Check.cells(46, 53));
    }

    // ---- promise 12

    private static void year() {
        MightHaveBeenPutUp x = fresh();
        due("12 nobody", x.year(), 0);
        due("12 counted", x.told(0, 0), 1);
        x.regret(0, 0, 3);
        x.raise(0, 4, 8);
        due("12 falls", x.year(), 2);
        due("12 the highest", x.wall(0), Check.cells(8));
        due("12 firm", x.told(0, 2), 1);
        due("12 paid", x.count(2), 3);
        due("12 the last", x.year(), 1);
        due("12 firm 0", x.told(0, 2), 0);
        due("12 paid", x.count(2), 4);
        due("12 year", x.told(0, 0), 3);
        x.set(0, 0, 998);
        due("12 last year", x.year(), 0);
        due("12 no more", x.year(), STATE);
        due("12 999", x.told(0, 0), 999);
    }

    private static void yearOrder() {
        MightHaveBeenPutUp x = fresh();
        x.regret(0, 0, 0);
        x.regret(0, 0, 50);
        x.raise(0, 0, 8);
        x.raise(1, 0, 16);
        due("12 with what it held", x.year(), 2);
        due("12 the second pays for nothing", x.count(2), 1);
        MightHaveBeenPutUp y = fresh();
        y.regret(0, 0, 50);
        y.regret(0, 0, 0);
        y.raise(1, 0, 8);
        y.raise(0, 0, 16);
        due("12 with what it held", y.year(), 2);
        due("12 the first has paid", y.count(2), 2);
        MightHaveBeenPutUp z = fresh();
        Check.text(z, "holds high;fades 0;costs 0;");
        z.force(1);
        z.regret(0, 0, 9);
        z.raise(0, 4, 8);
        due("12 held", z.year(), 0);
        z.raise(0, 0, 9);
        due("12 told anew", z.year(), 3);
        due("12 what is left", z.wall(0), Check.cells(8));
        MightHaveBeenPutUp w = fresh();
        Check.text(w, "holds 64;fades paid;costs firm;");
        w.force(1);
        w.regret(0, 0, 50);
        w.year();
        due("12 fades told ahead", w.told(0, 2), 50);
        w.year();
        due("12 fades", w.told(0, 2), 0);
        due("12 costs told ahead", w.count(2), 100);
        MightHaveBeenPutUp v = fresh();
        v.regret(4, 0, 2);
        v.raise(0, 1, 8);
        v.year();
        due("12 even year", v.told(0, 2), 2);
        due("12 odd year", v.year(), 0);
        due("12 firm of the view", v.told(0, 2), 1);
        v.year();
        due("12 nothing holds", v.year(), 2);
    }

    private static void yearBounds() {
        MightHaveBeenPutUp x = fresh();
        Check.text(x, "holds 0;fades 1;costs 999;");
        x.force(1);
        for (int one = 0; one < 5; one++) {
            x.regret(0, 0, 99);
        }
        for (int i = 0; i < 20; i++) {
            x.year();
        }
        due("12 paid", x.count(2), 99900);
        due("12 paid in thought", x.run(0, 1, 2), 99999);
        x.year();
        due("12 paid at most", x.count(2), 99999);
        x.year();
        due("12 paid stays", x.count(2), 99999);
        due("12 firm", x.told(4, 2), 77);
        due("12 firm at least", x.run(4, 40, 3), 37);
        x.set(2, 4, 39);
        due("12 firm at least", x.run(4, 40, 3), 0);
    }

    // ---- promise 13, 14

    private static MightHaveBeenPutUp twoPosts() {
        MightHaveBeenPutUp x = fresh();
        x.regret(0, 0, 5);
        x.regret(5, 0, 0);
        x.raise(0, 4, 8);
        x.raise(1, 4, 15);
        x.raise(1, 0, 32);
        return x;
    }

    private static void run() {
        MightHaveBeenPutUp x = twoPosts();
        int[][] want = {{7, 3, 0, 5}, {7, 3, 3, 3}, {4, 1, 6, 1}, {3, 0, 7, 0}, {3, 0, 7, 0}};
        for (int n = 0; n < want.length; n++) {
            for (int what = 0; what < 4; what++) {
                due("13 year " + n + ", what " + what, x.run(0, n, what), want[n][what]);
            }
        }
        due("13 the other's", x.run(1, 1, 1), 4);
        due("13 the other's later", x.run(1, 2, 1), 3);
        due("13 forty", x.run(1, 40, 1), 3);
        due("13 in thought", x.count(1), 7);
        due("13 year in thought", x.told(0, 0), 0);
        due("13 one 2", x.run(2, 0, 0), BAD);
        due("13 one -1", x.run(-1, 0, 0), BAD);
        due("13 n 41", x.run(0, 41, 0), BAD);
        due("13 n -1", x.run(0, -1, 0), BAD);
        due("13 what 4", x.run(0, 0, 4), BAD);
        due("13 what -1", x.run(0, 0, -1), BAD);
        x.set(0, 0, 999);
        due("13 years go on in thought", x.run(0, 1, 3), 3);
    }

    private static void later() {
        MightHaveBeenPutUp x = twoPosts();
        due("14 now", x.later(0), x.wall(-2));
        due("14 two", x.later(2), 255L | Check.cells(8, 15, 23, 31));
        due("14 forty", x.later(40), 255L | Check.cells(15, 23, 31));
        due("14 n 41", x.later(41), NO);
        due("14 n -1", x.later(-1), NO);
        due("14 in thought", x.count(1), 7);
        due("14 nobody", fresh().later(40), 255L);
    }

    // ---- promise 15, 16

    private static void walk() {
        MightHaveBeenPutUp x = twoPosts();
        due("15 itself", x.walk(3, 3), 0);
        due("15 the row", x.walk(7, 0), 7);
        due("15 up", x.walk(32, 31), 14);
        due("15 no step over the side", x.walk(7, 8), 8);
        due("15 from nothing", x.walk(9, 0), NONE);
        due("15 to nothing", x.walk(0, 9), NONE);
        due("15 nothing itself", x.walk(9, 9), NONE);
        x.set(3, 4, 0);
        due("15 apart", x.walk(0, 7), NONE);
        due("15 from 64", x.walk(64, 0), BAD);
        due("15 to 64", x.walk(0, 64), BAD);
        due("15 from -1", x.walk(-1, 0), BAD);
        due("15 to -1", x.walk(0, -1), BAD);
        MightHaveBeenPutUp y = fresh();
        for (int row = 1; row < 8; row++) {
            for (int column = 0; column < 8; column++) {
                boolean bridge = row % 4 == 1 && column == 7 || row % 4 == 3 && column == 0;
                y.set(3, 8 * row + column, row % 2 == 0 || bridge ? 1 : 0);
            }
        }
        due("15 a long way", y.walk(0, 55), 27);
        due("15 a longer way", y.walk(56, 0), 35);
    }

    private static void round() {
        MightHaveBeenPutUp x = twoPosts();
        due("16 none", x.round(8, 0), Check.cells(8));
        due("16 one", x.round(8, 1), Check.cells(8, 0, 16));
        due("16 two", x.round(8, 2), Check.cells(8, 0, 1, 16, 24));
        due("16 all", x.round(8, 63), x.wall(-2));
        due("16 not there", x.round(9, 63), 0);
        due("16 from 64", x.round(64, 0), NO);
        due("16 from -1", x.round(-1, 0), NO);
        due("16 n 64", x.round(0, 64), NO);
        due("16 n -1", x.round(0, -1), NO);
        x.set(3, 4, 0);
        due("16 apart", x.round(0, 63), Check.cells(0, 1, 2, 3, 8, 16, 24, 32));
    }

    // ---- promise 17

    private static void reach() {
        MightHaveBeenPutUp x = fresh();
        int[] rows = {0, 1, 1, 1, 2, 2, 2, NONE};
        for (int cell = 0; cell < 64; cell++) {
            due("17 cell " + cell, x.reach(cell), rows[cell / 8]);
        }
        due("17 cell 64", x.reach(64), BAD);
        due("17 cell -1", x.reach(-1), BAD);
        for (int cell = 0; cell < 8; cell++) {
            x.set(3, cell, 0);
        }
        due("17 no house", x.reach(0), NONE);
        x.set(3, 63, 1);
        due("17 three steps", x.reach(39), 1);
        due("17 two and one", x.reach(46), 1);
        due("17 four steps", x.reach(59), 2);
        due("17 six steps", x.reach(57), 2);
        due("17 six steps aside", x.reach(36), 2);
        due("17 seven steps", x.reach(56), NONE);
        MightHaveBeenPutUp y = fresh();
        // a hole of two cells, too small for any second part but the nail
        y.set(3, 9, 1);
        y.set(3, 11, 1);
        y.set(3, 17, 1);
        y.set(3, 19, 1);
        y.set(3, 26, 1);
        due("17 in a hole", y.reach(18), 1);
        due("17 nothing was put up", y.count(1), 0);
    }

    // ---- promise 18

    private static void key() {
        MightHaveBeenPutUp x = fresh();
        due("18 none", x.key(0), NONE);
        due("18 none", x.key(1), NONE);
        due("18 what 2", x.key(2), BAD);
        due("18 what -1", x.key(-1), BAD);
        x.regret(0, 0, 9);
        x.regret(0, 0, 9);
        x.raise(0, 3, 11);
        due("18 the least", x.key(0), 11);
        due("18 no others", x.key(1), 0);
        x.raise(0, 4, 14);
        due("18 a foot", x.key(0), 14);
        due("18 two others", x.key(1), 2);
        x.raise(1, 4, 8);
        due("18 of like ones the least", x.key(0), 8);
        x.raise(1, 0, 38);
        due("18 for whomever", x.key(0), 14);
        due("18 three others", x.key(1), 3);
        MightHaveBeenPutUp y = fromTheTop();
        due("18 hanging", y.key(0), 0);
        due("18 no others", y.key(1), 0);
        y.raise(0, 1, 1);
        due("18 hung from the first", y.key(0), 0);
        due("18 two others", y.key(1), 2);
    }

    /** Only CELL 8 is HOUSE, and CELL 0 is put up. */
    private static MightHaveBeenPutUp fromTheTop() {
        MightHaveBeenPutUp x = fresh();
        x.set(3, 8, 1);
        for (int cell = 0; cell < 8; cell++) {
            x.set(3, cell, 0);
        }
        due("17 cell 0", x.reach(0), 1);
        due("17 cell 3", x.reach(3), 2);
        x.regret(5, 0, 0);
        due("19 a window aside", x.add(0, 1, 0), 501);
        x.regret(0, 0, 3);
        due("19 a nail at 0", x.add(1, 1, 0), 0);
        due("9 at 0", x.raise(0, 0, 0), 1);
        return x;
    }

    // ---- promise 19

    private static void add() {
        MightHaveBeenPutUp x = fresh();
        due("19 nobody", x.add(0, 1, 0), BAD);
        x.regret(5, 0, 0);
        x.regret(0, 0, 3);
        due("19 one 2", x.add(2, 1, 0), BAD);
        due("19 one -1", x.add(-1, 1, 0), BAD);
        due("19 n 0", x.add(0, 0, 0), BAD);
        due("19 n 21", x.add(0, 21, 0), BAD);
        due("19 what 2", x.add(0, 1, 2), BAD);
        due("19 what -1", x.add(0, 1, -1), BAD);
        due("19 a window", x.add(0, 20, 0), 508);
        due("19 four", x.add(0, 20, 1), 4);
        due("19 one holds", x.add(1, 1, 0), 8);
        due("19 one", x.add(1, 1, 1), 1);
        due("19 none holds", x.add(1, 2, 0), NONE);
        due("19 as so", x.add(1, 2, 1), 0);
        x.raise(0, 1, 8);
        due("19 none adds", x.add(1, 2, 0), NONE);
        due("19 as so", x.add(1, 2, 1), 2);
        x.set(2, 1, 5);
        due("19 beside", x.add(1, 1, 0), 210);
        due("19 five", x.add(1, 1, 1), 5);
        due("19 in thought", x.count(1), 2);
        due("19 besides what is put up", x.add(0, 9, 1), 6);
    }

    // ---- promise 20

    private static void share() {
        MightHaveBeenPutUp x = fresh();
        due("20 nobody", x.share(0, 0), NO);
        x.regret(0, 0, 0);
        x.regret(0, 0, 0);
        due("20 none", x.share(0, 0), 0);
        due("20 none", x.share(0, 1), 1);
        x.raise(0, 5, 8);
        due("20 a third", x.share(0, 0), 1);
        due("20 a third", x.share(0, 1), 3);
        x.raise(1, 2, 10);
        due("20 four", x.share(0, 0), 4);
        due("20 of fifteen", x.share(0, 1), 15);
        due("20 one", x.share(1, 0), 1);
        due("20 of five", x.share(1, 1), 5);
        due("20 one 2", x.share(2, 0), NO);
        due("20 one -1", x.share(-1, 0), NO);
        due("20 part 2", x.share(0, 2), NO);
        due("20 part -1", x.share(0, -1), NO);
        for (int cell = 0; cell < 8; cell++) {
            x.set(3, cell, 0);
        }
        due("20 nothing stands", x.share(0, 0), NO);
        due("20 nothing stands", x.share(0, 1), NO);
    }

    // ---- promise 21

    private static void tellsDue(MightHaveBeenPutUp x, int sheet, int one, int... want) {
        for (int what = 0; what < want.length; what++) {
            due("21 of " + one + ", what " + what, x.tells(sheet, one, what), want[what]);
        }
    }

    /** A window for one of FIRM 6, by TEXT 0: 4, 2, 0 behind 1, 2, 3 YEARS. */
    private static void tells() {
        MightHaveBeenPutUp x = fresh();
        Check.text(x, "holds firm;fades 3;costs 0;");
        Check.text(x, "holds firm;fades 2;costs 9;");
        x.set(0, 0, 20);
        x.regret(0, 0, 6);
        x.regret(5, 0, 6);
        x.raise(0, 5, 8);
        x.raise(1, 5, 12);
        x.sheet(2, 0, 3);
        x.cell(2, 0, 4);
        x.cell(2, 1, 2);
        tellsDue(x, 2, 0, NONE, 1, 1023, 1, 6, 5, 1);
        tellsDue(x, 2, 1, 1, 1, 0, 0, NONE, 0, 1);
        x.sheet(2, 1, 1);
        x.cell(2, 0, 4);
        // a STAIR fades by 1, a VIEW not in an even YEAR, a BOY of NUMBER 0 not at all
        tellsDue(x, 2, 0, NONE, 63, 1023, 94, 6, 5, 3);
        x.cell(2, 0, 3);
        tellsDue(x, 2, 0, 0, 0, 0, 1, 5, 2, 0);
        x.sheet(2, 2, 2);
        x.cell(2, 0, 4);
        x.cell(2, 1, MAX);
        tellsDue(x, 2, 0, 1, 0, 0, 0, NONE, 0, 0);
        x.sheet(2, 2, 20);
        due("21 twenty", x.tells(2, 0, 0), 0);
        due("21 in thought", x.count(1), 8);
        due("21 rule in thought", x.count(5), 0);
        due("21 firm in thought", x.told(0, 2), 6);
        due("21 kind in thought", x.told(0, 3), 0);
        MightHaveBeenPutUp y = fresh();
        y.set(0, 0, 20);
        y.regret(3, 3, 0);
        y.raise(0, 5, 8);
        y.sheet(0, 0, 1);
        y.cell(0, 0, 3);
        tellsDue(y, 0, 0, NONE, 8, 8, 7, 0, 1, 1);
    }

    private static void tellsRefusals() {
        MightHaveBeenPutUp x = fresh();
        due("21 nobody", x.tells(0, 0, 0), BAD);
        x.regret(0, 0, 0);
        due("21 missing", x.tells(0, 0, 0), NOTHING);
        due("21 bad one ahead", x.tells(0, 1, 0), BAD);
        due("21 bad what ahead", x.tells(0, 0, 7), BAD);
        due("21 bad what ahead", x.tells(0, 0, -1), BAD);
        due("21 sheet 4", x.tells(4, 0, 0), BAD);
        due("21 sheet -1", x.tells(-1, 0, 0), BAD);
        x.sheet(0, 0, 21);
        due("21 too long", x.tells(0, 0, 0), BAD);
        x.sheet(0, 0, 0);
        tellsDue(x, 0, 0, NONE, 63, 1023, 100, 0, 1, 1);
    }

    // ---- promise 22

    private static void film() {
        MightHaveBeenPutUp x = twoPosts();
        due("22 none", x.film(3, 0, 0), 0);
        due("22 empty", x.cell(3, 0, 0), OUTSIDE);
        due("22 three", x.film(3, 0, 3), 3);
        due("22 tells", x.tells(3, 0, 0), NONE);
        due("22 size", x.cell(3, 3, 0), OUTSIDE);
        due("22 in thought", x.count(1), 7);
        x.sheet(0, 0, 3);
        due("22 bytes", x.copy(3, 0, 0, 0, 3), 3);
        due("22 its numbers", x.tells(0, 0, 0), NONE);
        x.cell(0, 0, 3);
        x.cell(0, 1, 1);
        x.cell(0, 2, 0);
        due("22 the numbers", x.tells(0, 0, 0), NONE);
        due("22 twenty", x.film(3, 1, 20), 20);
        due("22 sheet 4", x.film(4, 0, 0), BAD);
        due("22 sheet -1", x.film(-1, 0, 0), BAD);
        due("22 one 2", x.film(0, 2, 0), BAD);
        due("22 one -1", x.film(0, -1, 0), BAD);
        due("22 n 21", x.film(0, 0, 21), BAD);
        due("22 n -1", x.film(0, 0, -1), BAD);
        due("22 refused ones change nothing", x.cell(0, 2, 0), 1);
        due("22 for the other", x.tells(3, 1, 0), NONE);
    }

    // ---- promise 23, 24

    private static int cellOf(int seed) {
        int z = seed * 1103515245 + 12345;
        return (z >>> 9) % 64;
    }

    private static int seedOf(int cell) {
        int seed = -100000;
        while (cellOf(seed) != cell) {
            seed++;
        }
        return seed;
    }

    private static MightHaveBeenPutUp sawdust() {
        MightHaveBeenPutUp x = fresh();
        x.regret(5, 0, 0);
        x.raise(0, 4, 8);
        return x;
    }

    private static void drawn() {
        MightHaveBeenPutUp x = sawdust();
        due("23 none", x.drawn(5, 0), 3);
        due("23 the foot", x.drawn(seedOf(8), 1), 0);
        due("23 the middle", x.drawn(seedOf(16), 1), 1);
        due("23 the top", x.drawn(seedOf(24), 1), 2);
        due("23 elsewhere", x.drawn(seedOf(40), 1), 3);
        due("23 house", x.drawn(seedOf(0), 1), 3);
        int seed = 0;
        while (cellOf(seed) != 24 || cellOf(seed * 1103515245 + 12345) != 16) {
            seed++;
        }
        due("23 one", x.drawn(seed, 1), 2);
        due("23 two", x.drawn(seed, 2), 1);
        due("23 n 41", x.drawn(0, 41), BAD);
        due("23 n -1", x.drawn(0, -1), BAD);
        due("23 forty", x.drawn(MIN, 40) >= 0 ? 1 : 0, 1);
        due("23 in thought", x.count(1), 3);
        MightHaveBeenPutUp y = twoPosts();
        // the storm comes ahead of the YEAR: what it fells isn't paid for
        due("23 ahead of the year", y.drawn(seedOf(8), 1), 3);
        due("23 with years", y.drawn(seedOf(32), 2) <= 4 ? 1 : 0, 1);
    }

    /** A new object for each m, as one is made for 512 calls. */
    private static void chanceByDrawn(int m) {
        MightHaveBeenPutUp x = sawdust();
        for (int k = 0; k < 5; k++) {
            int those = 0;
            for (int i = 0; i < m; i++) {
                those += x.drawn(MAX - 3 + i, 10) >= k ? 1 : 0;
            }
            long above = x.chance(MAX - 3, m, k, 0);
            long below = x.chance(MAX - 3, m, k, 1);
            due("24 as large", above * m, those * below);
            due("24 lowest", gcd(above, below), 1);
        }
    }

    private static void chance() {
        for (int m = 1; m <= 20; m++) {
            chanceByDrawn(m);
        }
        MightHaveBeenPutUp x = sawdust();
        MightHaveBeenPutUp y = fresh();
        y.regret(0, 0, 21);
        y.raise(0, 0, 8);
        int calm = 0;
        while (calm < 500 && y.drawn(calm, 10) != 1) {
            calm++;
        }
        due("24 ten years", y.chance(calm, 1, 1, 0), 1);
        due("23 not eleven", y.drawn(calm, 11), 0);
        y.set(2, 0, 20);
        due("24 not nine", y.chance(calm, 1, 1, 0), 0);
        due("24 surely", x.chance(1, 20, 0, 0), 1);
        due("24 surely", x.chance(1, 20, 0, 1), 1);
        due("24 never", x.chance(1, 20, 64, 0), 0);
        due("24 never", x.chance(1, 20, 64, 1), 1);
        due("24 m 0", x.chance(0, 0, 0, 0), NO);
        due("24 m 21", x.chance(0, 21, 0, 0), NO);
        due("24 k 65", x.chance(0, 1, 65, 0), NO);
        due("24 k -1", x.chance(0, 1, -1, 0), NO);
        due("24 part 2", x.chance(0, 1, 0, 2), NO);
        due("24 part -1", x.chance(0, 1, 0, -1), NO);
    }

    private static long gcd(long a, long b) {
        return b == 0 ? a : gcd(b, a % b);
    }

    // ---- promise 25, 26

    private static void image() {
        MightHaveBeenPutUp x = twoPosts();
        due("26 none", x.back(), STATE);
        Check.text(x, "holds 1;fades 9;costs 7;");
        x.set(0, 0, 3);
        due("25 kept", x.image(), 2);
        x.force(1);
        x.set(1, 0, 9);
        x.year();
        x.regret(2, 2, 2);
        x.fell(15);
        x.set(3, 7, 0);
        x.raise(2, 0, 13);
        Check.text(x, "holds 2;fades 2;costs 2;");
        x.feed('h');
        x.sheet(0, 0, 4);
        due("26 back", x.back(), 2);
        due("26 the third goes", x.count(0), 2);
        due("26 the third goes", x.wall(2), NO);
        due("26 rule", x.count(5), 0);
        due("26 year", x.told(0, 0), 3);
        due("26 paid", x.count(2), 0);
        due("26 number", x.told(0, 1), 0);
        due("26 firm", x.told(0, 2), 5);
        due("26 house", x.wall(-1), 255L);
        due("26 the first's", x.wall(0), Check.cells(8, 16, 24));
        due("26 the second's", x.wall(1), Check.cells(15, 23, 31, 32));
        due("26 texts stay", x.count(3), 3);
        due("26 the tape stays", x.count(4), 1);
        due("26 sheets stay", x.cell(0, 3, 0), 1);
        due("26 another third", x.regret(4, 4, 4), 2);
        due("26 its kind", x.told(2, 3), 4);
        due("26 nothing is put up for it", x.wall(2), 0);
        due("26 once more", x.back(), 2);
        x.regret(1, 1, 1);
        due("25 anew", x.image(), 3);
        x.fell(8);
        due("26 the new one", x.back(), 3);
        due("26 all of it", x.count(1), 7);
    }

    // ---- promise 27

    private static void count() {
        MightHaveBeenPutUp x = twoPosts();
        Check.text(x, "holds 1;fades 0;costs 5;");
        x.force(1);
        x.feed('h');
        x.feed('o');
        x.year();
        int[] want = {2, 4, 5, 2, 2, 1};
        for (int what = 0; what < want.length; what++) {
            due("27 what " + what, x.count(what), want[what]);
        }
        due("27 what 6", x.count(6), BAD);
        due("27 what -1", x.count(-1), BAD);
    }

    // ---- promise 28, 29

    private static void sheet() {
        MightHaveBeenPutUp x = fresh();
        due("28 sheet 4", x.sheet(4, 0, 0), BAD);
        due("28 sheet -1", x.sheet(-1, 0, 0), BAD);
        due("28 sort 3", x.sheet(0, 3, 0), BAD);
        due("28 sort -2", x.sheet(0, -2, 0), BAD);
        due("28 n 41", x.sheet(0, 0, 41), BAD);
        due("28 n -1", x.sheet(0, 0, -1), TOO_SMALL);
        due("28 n least", x.sheet(0, 2, MIN), TOO_SMALL);
        due("28 sort ahead of n", x.sheet(0, 3, -1), BAD);
        due("28 none yet", x.cell(0, 0, 0), NOTHING);
        due("28 forty", x.sheet(3, 2, 40), 1);
        due("28 the last", x.cell(3, 39, 7), 1);
        due("28 refused", x.sheet(3, 0, -1), TOO_SMALL);
        due("28 it stays", x.cell(3, 39, 7), 1);
        due("28 empty", x.sheet(3, 0, 0), 1);
        due("28 no item", x.cell(3, 0, 0), OUTSIDE);
        due("28 missing", x.sheet(3, -1, 99), 1);
        due("28 missing again", x.sheet(3, -1, -99), 1);
        due("28 missing", x.cell(3, 0, 0), NOTHING);
        x.regret(5, 0, 0);
        x.sheet(1, 2, 1);
        x.cell(1, 0, 9);
        x.sheet(1, 2, 1);
        due("28 all 0", x.tells(1, 0, 0), NONE);
    }

    private static void cell() {
        MightHaveBeenPutUp x = fresh();
        due("29 sheet 4", x.cell(4, 0, 0), BAD);
        due("29 sheet -1", x.cell(-1, 0, 0), BAD);
        due("29 missing", x.cell(0, -1, 0), NOTHING);
        x.sheet(0, 0, 3);
        due("29 item 3", x.cell(0, 3, 0), OUTSIDE);
        due("29 item -1", x.cell(0, -1, 0), OUTSIDE);
        int[] wide = {256 + 3, 65536 + 3, 3};
        int[] narrow = {3, 3 + 256, 3 + 65536};
        x.regret(5, 0, 0);
        x.raise(0, 3, 8);
        for (int sort = 0; sort < 3; sort++) {
            x.sheet(sort, sort, 1);
            due("29 put", x.cell(sort, 0, wide[sort]), 1);
            due("29 lowest bits", x.tells(sort, 0, 0), NONE);
            due("29 put", x.cell(sort, 0, narrow[sort]), 1);
            due("29 bits that count", x.tells(sort, 0, 0), sort == 0 ? NONE : 0);
        }
    }

    // ---- promise 30

    private static void copy() {
        MightHaveBeenPutUp x = fresh();
        due("30 sheet 4", x.copy(4, 0, 0, 0, 0), BAD);
        due("30 other 4", x.copy(0, 0, 4, 0, 0), BAD);
        due("30 sheet -1", x.copy(-1, 0, 0, 0, 0), BAD);
        due("30 other -1", x.copy(0, 0, -1, 0, 0), BAD);
        due("30 missing", x.copy(0, 0, 1, 0, -1), NOTHING);
        x.sheet(0, 0, 4);
        due("30 other missing", x.copy(0, 0, 1, 0, 0), NOTHING);
        due("30 one missing", x.copy(1, 0, 0, 0, 0), NOTHING);
        x.sheet(1, 1, 4);
        due("30 unlike", x.copy(0, 9, 1, 0, -1), UNLIKE);
        x.sheet(1, 0, 2);
        int[][] outside = {{0, 0, -1}, {-1, 0, 1}, {0, -1, 1}, {0, 0, 3}, {3, 0, 2}, {0, 1, 2}, {5, 0, 0},
            {0, 3, 0}, {MAX, 0, MAX}, {0, MAX, 1}, {1, 0, MAX}, {MIN, MIN, MIN}, {0, 0, MIN}};
        for (int[] o : outside) {
            due("30 outside", x.copy(0, o[0], 1, o[1], o[2]), OUTSIDE);
        }
        due("30 none at the end", x.copy(0, 4, 1, 2, 0), 0);
        copyOverlap();
    }

    /** The numbers are read back as regrets: kind, number, firm. */
    private static void copyOverlap() {
        MightHaveBeenPutUp x = fresh();
        x.sheet(0, 1, 6);
        for (int i = 0; i < 6; i++) {
            x.cell(0, i, i);
        }
        due("30 onto itself, up", x.copy(0, 0, 0, 1, 5), 5);
        x.bag(0, 1, 0, 2);
        int[][] want = {{0, 0, 1}, {2, 3, 4}, {1, 2, 3}};
        due("30 onto itself, down", x.copy(0, 2, 0, 0, 4), 4);
        x.bag(0, 1, 0, 1);
        for (int one = 0; one < want.length; one++) {
            due("30 kind", x.told(one, 3), want[one][0]);
            due("30 number", x.told(one, 1), want[one][1]);
            due("30 firm", x.told(one, 2), want[one][2]);
        }
    }

    // ---- promise 31

    private static MightHaveBeenPutUp bagOf(int sort, int... items) {
        MightHaveBeenPutUp x = fresh();
        x.sheet(0, sort, items.length);
        for (int i = 0; i < items.length; i++) {
            x.cell(0, i, items[i]);
        }
        return x;
    }

    private static void bag() {
        MightHaveBeenPutUp x = bagOf(0, 9, 1, 2, 3, 6, 0, 0, 4, 5, 99, 0, 0, 0);
        due("31 sheet 4", x.bag(4, 0, 0, 0), BAD);
        due("31 sheet -1", x.bag(-1, 0, 0, 0), BAD);
        due("31 sort 3", x.bag(0, 3, 0, 0), BAD);
        due("31 sort -1", x.bag(1, -1, 0, 0), BAD);
        due("31 n 6", x.bag(0, 0, 0, 6), BAD);
        due("31 n -1", x.bag(0, 0, 0, -1), BAD);
        due("31 unlike", x.bag(0, 1, -5, 1), UNLIKE);
        due("31 missing", x.bag(1, 1, 0, 0), NOTHING);
        due("31 none", x.bag(0, 0, 0, 0), 0);
        due("31 none from outside", x.bag(0, 0, MAX, 0), 0);
        due("31 outside", x.bag(0, 0, -1, 1), OUTSIDE);
        due("31 outside", x.bag(0, 0, MAX, 5), OUTSIDE);
        due("31 outside", x.bag(0, 0, MIN, 5), OUTSIDE);
        due("31 none came", x.count(0), 0);
        due("31 two of three", x.bag(0, 0, 1, 3), 2);
        due("31 first kind", x.told(0, 3), 1);
        due("31 first number", x.told(0, 1), 2);
        due("31 first firm", x.told(0, 2), 3);
        due("31 second kind", x.told(1, 3), 4);
        due("31 second firm", x.told(1, 2), 99);
        due("31 the end", x.bag(0, 0, 10, 2), OUTSIDE);
        due("31 what stood ahead came", x.count(0), 3);
        due("31 a part of one", x.bag(0, 0, 11, 1), OUTSIDE);
        due("31 no part of one", x.count(0), 3);
        MightHaveBeenPutUp y = bagOf(2, 1, 1, 1, 2, 2, 2, 3, 3, 3, 4, 4, 4, 5, 5, 5);
        y.regret(0, 0, 0);
        due("31 as many as have room", y.bag(0, 2, 0, 5), 4);
        due("31 full", y.bag(0, 2, 0, 5), 0);
        due("31 outside, full", y.bag(0, 2, 3, 5), OUTSIDE);
        due("31 five", y.count(0), 5);
    }

    // ---- promise 32

    private static void taken() {
        int[] under = {0b000001, 0b000011, 0b000101, 0b001011, 0b010101, 0b100001};
        for (int kind = 0; kind < 6; kind++) {
            MightHaveBeenPutUp x = fresh();
            due("32 none such", x.taken(0, kind), NOTHING);
            x.regret(kind, 7, 0);
            for (int k = 0; k < 6; k++) {
                due("32 kind " + kind + " as " + k, x.taken(0, k), (under[kind] >> k & 1) != 0 ? 7 : UNLIKE);
            }
            due("32 k 6", x.taken(0, 6), BAD);
            due("32 k ahead of one", x.taken(9, -1), BAD);
            due("32 one 1", x.taken(1, 0), NOTHING);
            due("32 one -1", x.taken(-1, 0), NOTHING);
        }
    }
}
