import java.lang.reflect.Method;
import java.util.Arrays;

/**
 * Every call with all the numbers around its bounds, each with each, so that any two refusals meet: asked of the
 * class and of the model, on an empty, a furnished and a full object. None may throw.
 */
public final class EdgesGridTest {
    private static final int MIN = Integer.MIN_VALUE, MAX = Integer.MAX_VALUE;
    private static final int MOST_CALLS = 512;

    private static final int[] ONES = {MIN, -1, 0, 2, 3, 4, 5, MAX};
    private static final int[] CELLS = {MIN, -1, 0, 7, 8, 24, 62, 63, 64, MAX};
    private static final int[] SHEETS = {MIN, -1, 0, 1, 2, 3, 4, MAX};
    private static final int[] PARTS = {MIN, -1, 0, 3, 5, 6, MAX};
    private static final int[] HALVES = {MIN, -1, 0, 1, 2, MAX};
    private static final int[] YEARS = {MIN, -1, 0, 1, 40, 41, MAX};
    private static final int[] SEEDS = {MIN, 0, MAX};

    private static final String[] BARE = {};
    private static final String[] FURNISHED = {
        "regret 1 3 20", "regret 0 0 7", "raise 0 4 8", "image", "raise 1 5 10", "regret 4 9 5", "raise 2 4 15",
        "set 3 63 1", "set 0 0 41", "text holds firm+1;fades 1;costs parts*5;", "force 1", "sheet 0 0 3",
        "sheet 1 1 6", "cell 1 0 1", "cell 1 1 9", "cell 1 2 3", "sheet 2 2 21",
    };
    private static final String[] FULL = {
        "regret 3 9 99", "regret 0 0 3", "regret 2 5 50", "regret 4 1 1", "regret 5 0 0", "raise 0 5 8", "raise 1 4 10",
        "raise 2 3 34", "raise 3 2 12", "raise 4 1 14", "image", "text holds 1;fades 0;costs 0;",
        "text holds 2;fades 1;costs 9;", "text holds 0;fades 2;costs 0;", "text holds firm;fades 3;costs 0;",
        "text holds high;fades 4;costs 5;", "set 0 0 999", "sheet 0 0 20", "sheet 1 0 40", "sheet 2 1 0",
        "sheet 3 2 15",
    };

    private final String[] scene;
    private Object x;
    private Object model;
    private int calls;

    private EdgesGridTest(String[] scene) {
        this.scene = scene;
    }

    public static void main(String[] args) throws ReflectiveOperationException {
        String[][] scenes = {BARE, FURNISHED, FULL};
        for (String[] scene : scenes) {
            new EdgesGridTest(scene).askAll();
        }
        Check.end("EdgesGridTest");
    }

    private void askAll() throws ReflectiveOperationException {
        int[] whats = {MIN, -3, -2, -1, 0, 1, 2, 3, 4, 5, 6, 7, 8, 9, MAX};
        int[] v = {MIN, -1, 0, 1, 2, 9, 10, 99, 100, 999, 1000, MAX};
        grid("set", new int[] {MIN, -1, 0, 1, 2, 3, 4, MAX}, CELLS, v);
        grid("regret", new int[] {-1, 0, 5, 6}, new int[] {-1, 0, 9, 10}, new int[] {-1, 0, 99, 100});
        grid("told", CELLS, whats);
        grid("told", ONES, whats);
        grid("wall", whats);
        grid("feed", new int[] {MIN, -1, 0, 10, 255, 256, MAX});
        grid("text");
        grid("force", whats);
        grid("raise", ONES, PARTS, CELLS);
        grid("fell", CELLS);
        grid("room", PARTS);
        grid("year");
        grid("run", ONES, YEARS, new int[] {MIN, -1, 0, 1, 2, 3, 4, MAX});
        grid("later", YEARS);
        grid("walk", CELLS, CELLS);
        grid("round", CELLS, CELLS);
        grid("reach", CELLS);
        grid("key", HALVES);
        grid("add", ONES, new int[] {MIN, -1, 0, 1, 20, 21, MAX}, HALVES);
        grid("share", ONES, HALVES);
        grid("tells", SHEETS, ONES, whats);
        grid("film", SHEETS, ONES, new int[] {MIN, -1, 0, 1, 20, 21, MAX});
        grid("drawn", SEEDS, YEARS);
        grid("chance", SEEDS, new int[] {MIN, -1, 0, 1, 20, 21, MAX}, new int[] {MIN, -1, 0, 1, 64, 65, MAX}, HALVES);
        grid("image");
        grid("back");
        grid("count", whats);
        grid("sheet", SHEETS, new int[] {MIN, -2, -1, 0, 1, 2, 3, MAX}, new int[] {MIN, -1, 0, 1, 40, 41, MAX});
        grid("cell", SHEETS, new int[] {MIN, -1, 0, 2, 3, 6, 39, 40, MAX}, new int[] {MIN, -1, 0, 128, 65536, MAX});
        grid("copy", new int[] {-1, 0, 1, 2, 3, 4}, new int[] {MIN, -1, 0, 3, 15, MAX}, new int[] {-1, 0, 1, 2, 3, 4},
            new int[] {MIN, -1, 0, 6, MAX}, new int[] {MIN, -1, 0, 3, 15, MAX});
        grid("bag", SHEETS, new int[] {MIN, -1, 0, 1, 2, 3, MAX}, new int[] {MIN, -1, 0, 3, 18, 19, 38, MAX},
            new int[] {MIN, -1, 0, 1, 5, 6, MAX});
        grid("taken", ONES, new int[] {MIN, -1, 0, 1, 2, 3, 4, 5, 6, MAX});
    }

    private void grid(String name, int[]... around) throws ReflectiveOperationException {
        Class<?>[] types = new Class<?>[around.length];
        Arrays.fill(types, int.class);
        Method ask = MightHaveBeenPutUp.class.getMethod(name, types);
        Method due = Model.class.getDeclaredMethod(name, types);
        furnish();
        int all = 1;
        for (int[] values : around) {
            all *= values.length;
        }
        for (int k = 0; k < all; k++) {
            Object[] numbers = new Object[around.length];
            int rest = k;
            for (int i = 0; i < around.length; i++) {
                numbers[i] = around[i][rest % around[i].length];
                rest /= around[i].length;
            }
            askBoth(ask, due, numbers);
        }
    }

    /** Behind each call a look at what it may have changed. */
    private void askBoth(Method ask, Method due, Object[] numbers) throws ReflectiveOperationException {
        if (calls + 4 > MOST_CALLS) {
            furnish();
        }
        calls += 4;
        String words = ask.getName() + Arrays.toString(numbers);
        Check.due(words, ((Number) ask.invoke(x, numbers)).longValue(), ((Number) due.invoke(model, numbers)).longValue());
        MightHaveBeenPutUp it = (MightHaveBeenPutUp) x;
        Model other = (Model) model;
        Check.due("behind " + words + " all that STANDS", it.wall(-2), other.wall(-2));
        Check.due("behind " + words + " REGRETS", it.count(0), other.count(0));
        Check.due("behind " + words + " YEAR", it.told(0, 0), other.told(0, 0));
    }

    private void furnish() throws ReflectiveOperationException {
        x = new MightHaveBeenPutUp();
        model = new Model();
        calls = 0;
        for (String line : scene) {
            String[] words = line.split(" ");
            if (words[0].equals("text")) {
                readText(line.substring(5));
            } else {
                Object[] numbers = new Object[words.length - 1];
                Class<?>[] types = new Class<?>[numbers.length];
                for (int i = 0; i < numbers.length; i++) {
                    numbers[i] = Integer.valueOf(words[i + 1]);
                    types[i] = int.class;
                }
                MightHaveBeenPutUp.class.getMethod(words[0], types).invoke(x, numbers);
                Model.class.getDeclaredMethod(words[0], types).invoke(model, numbers);
                calls++;
            }
        }
    }

    private void readText(String text) {
        for (int i = 0; i < text.length(); i++) {
            ((MightHaveBeenPutUp) x).feed(text.charAt(i));
            ((Model) model).feed(text.charAt(i));
            calls++;
        }
        ((MightHaveBeenPutUp) x).text();
        ((Model) model).text();
        calls++;
    }
}
