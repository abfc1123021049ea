import java.util.Random;

/** Long runs of drawn calls, each asked of the class and of the model; fixed seeds, so always the same. */
public final class ModelTest {
    private static final int RUNS = 150, SORTS_OF_CALLS = 31;
    /** An object is made for so many calls; a turn of a run asks two of them at most, but where it reads a text. */
    private static final int CALLS = 512, MOST_AT_ONCE = 2;
    private static final int[] EDGES = {-1, -2, -3, 64, 63, 65, 5, 6, 40, 41, 20, 21, 100, 99, 1000, 999, 256,
        Integer.MAX_VALUE, Integer.MIN_VALUE, Integer.MAX_VALUE - 1};
    private static final String[] NAMES = {"firm", "number", "year", "parts", "high", "paid"};

    private final Random random;
    private final MightHaveBeenPutUp x = new MightHaveBeenPutUp();
    private final Model model = new Model();
    private final StringBuilder run = new StringBuilder();
    private int calls = 0;

    private ModelTest(long seed) {
        random = new Random(seed);
    }

    public static void main(String[] args) {
        for (int seed = 0; seed < RUNS && !Check.isWrong(); seed++) {
            new ModelTest(seed).start();
        }
        for (int seed = 0; seed < 40000 && !Check.isWrong(); seed++) {
            new ModelTest(seed).readOne();
        }
        Check.end("ModelTest");
    }

    private void start() {
        boolean slow = random.nextInt(3) == 0;
        while (calls + MOST_AT_ONCE <= CALLS && !Check.isWrong()) {
            int draw = random.nextInt(SORTS_OF_CALLS + 12);
            if (draw >= SORTS_OF_CALLS) {
                grow();
            } else if (slow || draw != 13 && draw != 14 && draw != 17 && draw != 22 || random.nextInt(6) == 0) {
                ask(draw);
            }
        }
    }

    /** Of a number below n mostly, else one of the edges. */
    private int pick(int n) {
        return random.nextInt(14) == 0 ? EDGES[random.nextInt(EDGES.length)] : random.nextInt(n);
    }

    private int one() {
        int n = model.now.regrets.size();
        return pick(n == 0 ? 1 : n);
    }

    private void due(String call, long got, long want) {
        calls++;
        run.append(call).append(" = ").append(want).append('\n');
        Check.due(call, got, want);
        if (got != want) {
            System.out.println("the run:\n" + run);
        }
    }

    private void grow() {
        int part = random.nextInt(6);
        long room = model.room(part);
        if (Math.floorMod(random.nextInt(), 5) == 0 || model.now.regrets.isEmpty()) {
            regret(random.nextInt(6), random.nextInt(10), random.nextInt(30));
        } else if (room != 0) {
            int at = random.nextInt(64);
            while ((room >>> at & 1) == 0) {
                at = (at + 1) % 64;
            }
            raise(one(), part, at);
        }
    }

    private void regret(int kind, int number, int firm) {
        due("regret " + kind + " " + number + " " + firm, x.regret(kind, number, firm),
            model.regret(kind, number, firm));
    }

    private void raise(int one, int part, int at) {
        due("raise " + one + " " + part + " " + at, x.raise(one, part, at), model.raise(one, part, at));
        due("wall -2", x.wall(-2), model.wall(-2));
    }

    // ---- texts

    private String expression(int depth) {
        switch (random.nextInt(depth <= 0 ? 4 : 12)) {
            case 0:
            case 1:
                return NAMES[random.nextInt(NAMES.length)];
            case 2:
                return "" + random.nextInt(12);
            case 3:
                return "" + random.nextInt(10000);
            case 4:
                return "(" + expression(depth - 1) + ")";
            case 5:
                return "-" + expression(depth - 1);
            case 6:
                return "not " + expression(depth - 1);
            default:
                String[] signs = {"+", "-", "*", "<", "=", " or ", " and ", " + ", "\n*\n"};
                return expression(depth - 1) + signs[random.nextInt(signs.length)] + expression(depth - 1);
        }
    }

    private String text() {
        StringBuilder all = new StringBuilder("holds " + expression(2) + ";fades " + expression(2) + ";costs "
            + expression(2) + ";");
        int changes = random.nextInt(3) == 0 ? 1 + random.nextInt(2) : 0;
        String letters = "();+-*<= \n01234firmyenpadhcosuabtl?A@[`{/:,>";
        for (int i = 0; i < changes; i++) {
            int at = random.nextInt(all.length());
            char letter = letters.charAt(random.nextInt(letters.length()));
            switch (random.nextInt(3)) {
                case 0:
                    all.setCharAt(at, letter);
                    break;
                case 1:
                    all.insert(at, letter);
                    break;
                default:
                    all.deleteCharAt(at);
                    break;
            }
        }
        return all.toString();
    }

    private void read(String text) {
        if (calls + text.length() + MOST_AT_ONCE > CALLS) {
            return;
        }
        for (int i = 0; i < text.length(); i++) {
            due("feed " + (int) text.charAt(i), x.feed(text.charAt(i)), model.feed(text.charAt(i)));
        }
        due("text of " + text, x.text(), model.text());
        int made = model.texts.size();
        if (made > 1) {
            int rule = random.nextInt(made);
            due("force " + rule, x.force(rule), model.force(rule));
        }
    }

    /** A fresh object, one text, and what it tells of one. */
    private void readOne() {
        regret(0, random.nextInt(10), random.nextInt(100));
        raise(0, random.nextInt(6), 8 + random.nextInt(8));
        int year = random.nextInt(1000);
        due("set 0 0 " + year, x.set(0, 0, year), model.set(0, 0, year));
        read(random.nextInt(4) == 0 ? tokens() : text());
        for (int what = 4; what < 7; what++) {
            due("told 0 " + what, x.told(0, what), model.told(0, what));
        }
        due("count 3", x.count(3), model.count(3));
    }

    private String tokens() {
        String[] all = {"holds", "fades", "costs", "or", "and", "not", "firm", "high", "(", ")", ";", "+", "-", "*",
            "<", "=", "1", "99999", "x", " ", "-", "not", "("};
        StringBuilder text = new StringBuilder("holds ");
        int n = random.nextInt(20);
        for (int i = 0; i < n; i++) {
            text.append(all[random.nextInt(all.length)]).append(random.nextBoolean() ? " " : "");
        }
        return text.toString();
    }

    // ---- all calls

    private void ask(int sort) {
        int one = one();
        switch (sort) {
            case 0: {
                int what = pick(4);
                int of = what == 3 ? pick(random.nextInt(3) == 0 ? 64 : 8) : one;
                int v = what == 0 ? pick(25) : what == 1 ? pick(10) : what == 2 ? pick(30)
                    : random.nextInt(4) == 0 ? pick(2) : 1;
                due("set " + what + " " + of + " " + v, x.set(what, of, v), model.set(what, of, v));
                break;
            }
            case 1:
                regret(pick(6), pick(10), pick(100));
                break;
            case 2: {
                int what = pick(9);
                int of = what == 8 ? pick(64) : one;
                due("told " + of + " " + what, x.told(of, what), model.told(of, what));
                break;
            }
            case 3: {
                int what = random.nextInt(8) - 2;
                due("wall " + what, x.wall(what), model.wall(what));
                break;
            }
            case 4:
                if (random.nextInt(10) == 0) {
                    read(text());
                } else {
                    int rule = pick(6);
                    due("force " + rule, x.force(rule), model.force(rule));
                }
                break;
            case 5: {
                int letter = pick(256);
                due("feed " + letter, x.feed(letter), model.feed(letter));
                due("text", x.text(), model.text());
                break;
            }
            default:
                askMore(sort, one);
                break;
        }
    }

    private void askMore(int sort, int one) {
        switch (sort) {
            case 6: {
                raise(one, pick(6), pick(64));
                break;
            }
            case 7: {
                int cell = pick(64);
                due("fell " + cell, x.fell(cell), model.fell(cell));
                break;
            }
            case 8: {
                int part = pick(6);
                due("room " + part, x.room(part), model.room(part));
                break;
            }
            case 9:
                due("year", x.year(), model.year());
                break;
            case 10: {
                int n = pick(41);
                int what = pick(4);
                due("run " + one + " " + n + " " + what, x.run(one, n, what), model.run(one, n, what));
                break;
            }
            case 11: {
                int n = pick(41);
                due("later " + n, x.later(n), model.later(n));
                break;
            }
            case 12: {
                int from = pick(64);
                int to = pick(64);
                int n = pick(64);
                due("walk " + from + " " + to, x.walk(from, to), model.walk(from, to));
                due("round " + from + " " + n, x.round(from, n), model.round(from, n));
                break;
            }
            case 13: {
                int cell = pick(64);
                due("reach " + cell, x.reach(cell), model.reach(cell));
                break;
            }
            case 14: {
                int n = pick(21);
                int what = pick(2);
                due("add " + one + " " + n + " " + what, x.add(one, n, what), model.add(one, n, what));
                break;
            }
            case 15: {
                int what = pick(2);
                due("key " + what, x.key(what), model.key(what));
                break;
            }
            case 16: {
                int part = pick(2);
                due("share " + one + " " + part, x.share(one, part), model.share(one, part));
                break;
            }
            default:
                askLast(sort, one);
                break;
        }
    }

    private void askLast(int sort, int one) {
        int sheet = pick(4);
        switch (sort) {
            case 17: {
                int what = pick(7);
                due("tells " + sheet + " " + one + " " + what, x.tells(sheet, one, what),
                    model.tells(sheet, one, what));
                break;
            }
            case 18: {
                int n = pick(random.nextBoolean() ? 5 : 21);
                due("film " + sheet + " " + one + " " + n, x.film(sheet, one, n), model.film(sheet, one, n));
                break;
            }
            case 19: {
                int seed = random.nextInt();
                int n = pick(41);
                due("drawn " + seed + " " + n, x.drawn(seed, n), model.drawn(seed, n));
                break;
            }
            case 20:
                if (random.nextInt(3) == 0) {
                    due("image", x.image(), model.image());
                } else {
                    due("back", x.back(), model.back());
                }
                break;
            case 21: {
                int what = pick(6);
                due("count " + what, x.count(what), model.count(what));
                break;
            }
            case 22: {
                int seed = random.nextInt();
                int m = pick(21);
                int k = pick(12);
                int part = pick(2);
                due("chance " + seed + " " + m + " " + k + " " + part, x.chance(seed, m, k, part),
                    model.chance(seed, m, k, part));
                break;
            }
            default:
                askHost(sort, sheet, one);
                break;
        }
    }

    private void askHost(int sort, int sheet, int one) {
        switch (sort) {
            case 23: {
                int of = random.nextInt(12) == 0 ? -1 : pick(3);
                int n = pick(41);
                due("sheet " + sheet + " " + of + " " + n, x.sheet(sheet, of, n), model.sheet(sheet, of, n));
                break;
            }
            case 24:
            case 25: {
                int i = pick(random.nextBoolean() ? 6 : 40);
                int v = random.nextInt(5) == 0 ? random.nextInt() : pick(6);
                due("cell " + sheet + " " + i + " " + v, x.cell(sheet, i, v), model.cell(sheet, i, v));
                break;
            }
            case 26:
            case 27: {
                int other = pick(4);
                int i = pick(10);
                int j = pick(10);
                int n = pick(12);
                due("copy " + sheet + " " + i + " " + other + " " + j + " " + n, x.copy(sheet, i, other, j, n),
                    model.copy(sheet, i, other, j, n));
                break;
            }
            case 28: {
                int of = pick(3);
                int from = pick(12);
                int n = pick(6);
                due("bag " + sheet + " " + of + " " + from + " " + n, x.bag(sheet, of, from, n),
                    model.bag(sheet, of, from, n));
                break;
            }
            default: {
                int k = pick(6);
                due("taken " + one + " " + k, x.taken(one, k), model.taken(one, k));
                break;
            }
        }
    }
}
