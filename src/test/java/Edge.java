import java.util.List;
import java.util.function.Supplier;
import java.util.function.ToLongFunction;

/** What the tests of the boundary cases share: a number at its bounds, and refused calls that change nothing. */
final class Edge {
    static final int NONE = -1, BAD = -2, STATE = -3, FULL = -4;
    static final int NOTHING = -11, OUTSIDE = -12, UNLIKE = -13, TOO_SMALL = -14;
    static final long NO = -4611686018427387904L;
    static final int MIN = Integer.MIN_VALUE, MAX = Integer.MAX_VALUE;

    private Edge() {
    }

    interface Call {
        long of(MightHaveBeenPutUp x, int v);
    }

    static MightHaveBeenPutUp fresh() {
        return new MightHaveBeenPutUp();
    }

    static void due(String sentence, long got, long want) {
        Check.due(sentence, got, want);
    }

    static void notDue(String sentence, long got, long not) {
        if (got == not) {
            Check.fault(sentence + " answered " + got + ", which is not due");
        }
    }

    /** A number of the scene's calls that may be lo .. hi: taken at both bounds and just inside, else refused. */
    static void bounds(String sentence, int lo, int hi, long refusal, Call call) {
        int[] inside = {lo, Math.min(lo + 1, hi), Math.max(hi - 1, lo), hi};
        for (int v : inside) {
            notDue(sentence + ": " + v, call.of(Scene.make(), v), refusal);
        }
        outside(sentence, lo, hi, refusal, call);
    }

    /** Just outside, and as far outside as can be. */
    static void outside(String sentence, int lo, int hi, long refusal, Call call) {
        int[] outside = {lo - 1, hi + 1, MIN, MAX};
        for (int v : outside) {
            refused(sentence + ": " + v, x -> call.of(x, v), refusal);
        }
    }

    /** A call on the scene is refused so, and changes nothing that a later call shows. */
    static void refused(String sentence, ToLongFunction<MightHaveBeenPutUp> call, long refusal) {
        refused(sentence, Scene::make, call, refusal);
    }

    static void refused(String sentence, Supplier<MightHaveBeenPutUp> scene,
            ToLongFunction<MightHaveBeenPutUp> call, long refusal) {
        MightHaveBeenPutUp x = scene.get();
        due(sentence, call.applyAsLong(x), refusal);
        same(sentence, Scene.readOut(x), Scene.readOut(scene.get()));
    }

    /** A call on the scene that only asks: whatever it answers, it changes nothing. */
    static void onlyAsks(String sentence, ToLongFunction<MightHaveBeenPutUp> call) {
        MightHaveBeenPutUp x = Scene.make();
        call.applyAsLong(x);
        same(sentence, Scene.readOut(x), Scene.readOut(Scene.make()));
    }

    /** The first that is otherwise is told. */
    static void same(String sentence, List<String> got, List<String> want) {
        due(sentence + ": as many shown", got.size(), want.size());
        for (int i = 0; i < Math.min(got.size(), want.size()); i++) {
            if (!got.get(i).equals(want.get(i))) {
                Check.fault(sentence + ": then " + got.get(i) + ", due is " + want.get(i));
                return;
            }
        }
    }

    /** Only these CELLS are HOUSE. */
    static MightHaveBeenPutUp house(int... cells) {
        MightHaveBeenPutUp x = fresh();
        for (int cell = 0; cell < 8; cell++) {
            x.set(3, cell, 0);
        }
        for (int cell : cells) {
            x.set(3, cell, 1);
        }
        return x;
    }

    /** All CELLS but these are HOUSE. */
    static MightHaveBeenPutUp allHouseBut(int... cells) {
        MightHaveBeenPutUp x = fresh();
        for (int cell = 8; cell < 64; cell++) {
            x.set(3, cell, 1);
        }
        for (int cell : cells) {
            x.set(3, cell, 0);
        }
        return x;
    }

    /** Reads these as a TEXT and makes it THE RULE. */
    static void rule(MightHaveBeenPutUp x, String holds, String fades, String costs) {
        int text = Check.text(x, "holds " + holds + ";fades " + fades + ";costs " + costs + ";");
        due("a text is read: " + holds + ", " + fades + ", " + costs, text > 0 ? 1 : 0, 1);
        x.force(text);
    }

    /** Columns and rows by themselves, so that no bit runs over a side. */
    static boolean isBeside(int a, int b) {
        return Math.abs(a % 8 - b % 8) + Math.abs(a / 8 - b / 8) == 1;
    }

    private static final int[][][] PARTS = {
        {{0, 0}},
        {{0, 0}, {1, 0}},
        {{0, 0}, {1, 0}, {1, 1}},
        {{0, 0}, {1, 0}, {2, 0}},
        {{0, 0}, {0, 1}, {0, 2}},
        {{0, 0}, {1, 0}, {0, 1}, {1, 1}},
    };

    /** The CELLS of a PART, or null, where not all of it is on the wall. */
    static int[] partAt(int part, int at) {
        int[] cells = new int[PARTS[part].length];
        for (int i = 0; i < cells.length; i++) {
            int column = at % 8 + PARTS[part][i][0];
            int row = at / 8 + PARTS[part][i][1];
            if (column > 7 || row > 7) {
                return null;
            }
            cells[i] = 8 * row + column;
        }
        return cells;
    }

    static boolean has(long cells, int cell) {
        return (cells >>> cell & 1) != 0;
    }

    static boolean canGo(int part, int at, long stands) {
        int[] cells = partAt(part, at);
        if (cells == null) {
            return false;
        }
        boolean held = false;
        for (int cell : cells) {
            if (has(stands, cell)) {
                return false;
            }
            for (int other = 0; other < 64; other++) {
                held |= has(stands, other) && isBeside(cell, other);
            }
        }
        return held;
    }
}
