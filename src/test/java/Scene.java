import java.util.ArrayList;
import java.util.List;

/** An object in which everything is something, and all that calls can show of an object. */
final class Scene {
    static final int REGRETS = 3, TEXTS = 2;
    /** The number of items of sheets 0, 1 and 2, which are of sorts 0, 1 and 2; sheet 3 is missing. */
    static final int[] ITEMS = {3, 6, 21};

    private static final String TAPE = "holds 7;fades 3;costs 2;";
    private static final int[] PLACES = {0, 1, 2, 3, 4, 6, 7, 20, 21, 22, 39, 40, 41};

    private Scene() {
    }

    /**
     * A BOY, a REGRET, a VIEW with CELLS 8, 16, 24; 10, 11, 18, 19; 15, 23, 31; CELL 63 is HOUSE too; YEAR 42;
     * TEXT 1 is THE RULE; THE TAPE has a TEXT; an IMAGE has the first two of REGRETS.
     */
    static MightHaveBeenPutUp make() {
        MightHaveBeenPutUp x = new MightHaveBeenPutUp();
        x.regret(1, 3, 20);
        x.regret(0, 0, 7);
        x.raise(0, 4, 8);
        x.set(0, 0, 5);
        x.image();
        x.raise(1, 5, 10);
        x.regret(4, 9, 5);
        x.raise(2, 4, 15);
        x.set(3, 63, 1);
        x.set(0, 0, 41);
        Check.text(x, "holds firm+1;fades 1;costs parts*5;");
        x.force(1);
        x.year();
        Check.feed(x, TAPE);
        for (int sheet = 0; sheet < ITEMS.length; sheet++) {
            fill(x, sheet, ITEMS[sheet]);
        }
        return x;
    }

    /** As the scene, but with five of REGRETS. */
    static MightHaveBeenPutUp fullOfRegrets() {
        MightHaveBeenPutUp x = make();
        x.regret(5, 1, 1);
        x.regret(2, 2, 2);
        return x;
    }

    /** As the scene, but with six TEXTS. */
    static MightHaveBeenPutUp fullOfTexts() {
        MightHaveBeenPutUp x = make();
        x.text();
        for (int text = 3; text < 6; text++) {
            Check.text(x, TAPE);
        }
        Check.feed(x, TAPE);
        return x;
    }

    /** As the scene, but THE TAPE has 160 bytes. */
    static MightHaveBeenPutUp fullTape() {
        MightHaveBeenPutUp x = make();
        for (int size = TAPE.length(); size < 160; size++) {
            x.feed(' ');
        }
        return x;
    }

    static MightHaveBeenPutUp inYear(int year) {
        MightHaveBeenPutUp x = make();
        x.set(0, 0, year);
        return x;
    }

    /** Three by three such as regret() takes. */
    private static void fill(MightHaveBeenPutUp x, int sheet, int n) {
        x.sheet(sheet, sheet, n);
        for (int i = 0; i < n; i++) {
            x.cell(sheet, i, i % 3 == 0 ? (i / 3 + sheet) % 6 : i % 3 == 1 ? i / 3 + 1 : 3 * i + sheet);
        }
    }

    /** All that calls can show; what is asked at the end changes the object. Well below 512 calls, with make(). */
    static List<String> readOut(MightHaveBeenPutUp x) {
        List<String> all = new ArrayList<>();
        world(x, all);
        all.add("back() " + x.back());
        world(x, all);
        for (int sheet = 0; sheet < 4; sheet++) {
            row(x, sheet, all);
        }
        int text = x.text();
        all.add("text() " + text);
        all.add("force " + x.force(text));
        for (int what = 4; what < 7; what++) {
            all.add("told 0 " + what + " by the tape " + x.told(0, what));
        }
        return all;
    }

    /** What can be shown of the wall, REGRETS and counts without a change. */
    static List<String> shown(MightHaveBeenPutUp x) {
        List<String> all = new ArrayList<>();
        world(x, all);
        return all;
    }

    private static void world(MightHaveBeenPutUp x, List<String> all) {
        all.add("YEAR " + x.told(0, 0));
        for (int what = 0; what < 6; what++) {
            all.add("count " + what + " " + x.count(what));
        }
        for (int what = -1; what < 5; what++) {
            all.add("wall " + what + " " + x.wall(what));
        }
        for (int one = 0; one < 5; one++) {
            for (int what = 1; what < 5; what++) {
                all.add("told " + one + " " + what + " " + x.told(one, what));
            }
        }
    }

    /** Its sort, its size, and its items, which come as REGRETS and are laid back. */
    private static void row(MightHaveBeenPutUp x, int sheet, List<String> all) {
        int sort = -1;
        for (int s = 0; s < 3; s++) {
            sort = x.bag(sheet, s, 0, 0) == 0 ? s : sort;
        }
        all.add("sheet " + sheet + " sort " + sort);
        for (int place : PLACES) {
            all.add("sheet " + sheet + " place " + place + " " + x.copy(sheet, place, sheet, place, 0));
        }
        for (int from = 0; from < 21 && sort >= 0; from += 9) {
            x.back();
            all.add("sheet " + sheet + " from " + from + " " + x.bag(sheet, sort, from, 3));
            for (int one = x.count(0) - 1; one >= 2; one--) {
                all.add("sheet " + sheet + " from " + from + ": " + x.told(one, 1) + " " + x.told(one, 2) + " "
                    + x.told(one, 3));
            }
        }
    }
}
