import java.util.List;
import java.util.Random;

/**
 * What the document says of one call by others: all that is asked in thought is also done truly, on a wall that was
 * drawn by the same number, and has to come out the same. Nothing is due here but what the class itself answers.
 */
public final class LawsTest {
    private static final int NONE = -1, STATE = -3;
    private static final int WALLS = 60, FEW_WALLS = 12;

    public static void main(String[] args) {
        for (int seed = 0; seed < WALLS; seed++) {
            Drawn wall = new Drawn(seed);
            kept(wall);
            yearByItsWords(wall);
            yearsInThought(wall);
            keyByFelling(wall);
            shareByCounting(wall);
            drawnByFelling(wall);
            chanceByDrawn(wall);
            laidBack(wall);
            toldOfFilm(wall);
            ways(wall);
        }
        for (int seed = 0; seed < FEW_WALLS; seed++) {
            Drawn wall = new Drawn(seed);
            roomByRaising(wall);
            addByRaising(wall);
            reachByRaising(wall);
        }
        Check.end("LawsTest");
    }

    private static void due(String law, Drawn wall, long got, long want) {
        Check.due("wall " + wall.seed + ": " + law, got, want);
    }

    private static boolean has(long cells, int cell) {
        return (cells >>> cell & 1) != 0;
    }

    private static int highest(long cells) {
        return 63 - Long.numberOfLeadingZeros(cells);
    }

    private static void years(MightHaveBeenPutUp x, int n) {
        for (int i = 0; i < n; i++) {
            x.year();
        }
    }

    // ---- what holds at all times

    private static void kept(Drawn wall) {
        MightHaveBeenPutUp x = wall.make();
        Random random = new Random(wall.seed);
        for (int turn = 0; turn < 4; turn++) {
            apart(wall, x);
            held(wall, x);
            bounds(wall, x);
            x.raise(random.nextInt(wall.regrets), random.nextInt(6), random.nextInt(64));
            x.fell(random.nextInt(64));
            x.set(3, random.nextInt(64), random.nextInt(2));
            x.year();
        }
    }

    private static void apart(Drawn wall, MightHaveBeenPutUp x) {
        long seen = x.wall(-1);
        int many = 0;
        for (int one = 0; one < wall.regrets; one++) {
            long up = x.wall(one);
            due("none is two's, nor HOUSE", wall, seen & up, 0);
            due("so many are PUT UP for it", wall, x.told(one, 7), Long.bitCount(up));
            seen |= up;
            many += Long.bitCount(up);
            for (int cell = one; cell < 64; cell += 13) {
                due("for whom", wall, x.told(cell, 8) == one ? 1 : 0, up >>> cell & 1);
            }
        }
        due("STANDS: HOUSE, and all that is PUT UP", wall, x.wall(-2), seen);
        due("so many are PUT UP", wall, x.count(1), many);
    }

    private static void held(Drawn wall, MightHaveBeenPutUp x) {
        long come = 0;
        long house = x.wall(-1);
        for (int cell = 0; cell < 64; cell++) {
            if (has(house, cell) && !has(come, cell)) {
                come |= x.round(cell, 63);
            }
        }
        due("all that STANDS is HELD", wall, come, x.wall(-2));
    }

    private static void bounds(Drawn wall, MightHaveBeenPutUp x) {
        int[] most = {999, 9, 99, 5, 64, 99, 999, 64};
        for (int one = 0; one < wall.regrets; one++) {
            for (int what = 0; what < most.length; what++) {
                int told = x.told(one, what);
                due("told " + what + " is in its bounds", wall, told >= 0 && told <= most[what] ? 1 : 0, 1);
            }
        }
    }

    // ---- years

    /** A YEAR done by told(), set() and fell() alone. */
    private static void yearByItsWords(Drawn wall) {
        MightHaveBeenPutUp x = wall.make();
        MightHaveBeenPutUp y = wall.make();
        for (int turn = 0; turn < 3; turn++) {
            int before = y.count(2);
            int paid = 0;
            int fallen = 0;
            for (int one = 0; one < wall.regrets; one++) {
                paid += x.told(one, 6);
                x.set(2, one, Math.max(0, x.told(one, 2) - x.told(one, 5)));
                while (x.told(one, 7) > x.told(one, 4)) {
                    fallen += x.fell(highest(x.wall(one)));
                }
            }
            x.set(0, 0, x.told(0, 0) + 1);
            due("so many FALL in a YEAR", wall, y.year(), fallen);
            due("so much is paid in a YEAR", wall, y.count(2) - before, paid);
            sameWall("behind a YEAR", wall, y, x);
        }
    }

    private static void sameWall(String law, Drawn wall, MightHaveBeenPutUp got, MightHaveBeenPutUp want) {
        for (int what = -2; what < wall.regrets; what++) {
            due(law + ": wall " + what, wall, got.wall(what), want.wall(what));
        }
        for (int one = 0; one < wall.regrets; one++) {
            for (int what = 0; what < 8; what++) {
                due(law + ": told " + one + " " + what, wall, got.told(one, what), want.told(one, what));
            }
        }
    }

    private static void yearsInThought(Drawn wall) {
        MightHaveBeenPutUp x = wall.make();
        MightHaveBeenPutUp y = wall.make();
        int one = wall.seed % wall.regrets;
        MightHaveBeenPutUp told = wall.make();
        told.sheet(2, 0, 20);
        for (int n = 0; n <= 40; n++) {
            due("later " + n, wall, x.later(n), y.wall(-2));
            if (n % 4 < 2) {
                due("run 0 " + n, wall, x.run(one, n, 0), y.count(1));
                due("run 1 " + n, wall, x.run(one, n, 1), y.told(one, 7));
                due("run 2 " + n, wall, x.run(one, n, 2), y.count(2));
                due("run 3 " + n, wall, x.run(one, n, 3), y.told(one, 2));
            }
            if (n >= 1 && n <= 20) {
                told.cell(2, n - 1, y.told(one, 7));
            }
            y.year();
        }
        due("the years that came are as in thought", wall, told.tells(2, one, 0), NONE);
        told.film(3, one, 20);
        due("a film tells the years in thought", wall, told.tells(3, one, 0), NONE);
        due("a film has bytes, one for each YEAR", wall, told.copy(3, 0, 2, 0, 20), 20);
    }

    // ---- ways

    private static void ways(Drawn wall) {
        MightHaveBeenPutUp x = wall.make();
        int from = highest(x.wall(-2));
        if (from < 0) {
            return;
        }
        long before = 0;
        for (int n = 0; n < 64; n++) {
            long come = x.round(from, n);
            long more = come & ~before;
            due("what was come to is come to by more steps", wall, before & ~come, 0);
            if (more != 0) {
                due("walk there", wall, x.walk(from, highest(more)), n);
                due("walk back", wall, x.walk(highest(more), from), n);
            }
            before = come;
        }
        long never = x.wall(-2) & ~before;
        due("walk to where one doesn't come", wall, never == 0 ? NONE : x.walk(from, highest(never)), NONE);
        due("from what doesn't STAND", wall, x.wall(-2) == -1 ? 0 : x.round(highest(~x.wall(-2)), 63), 0);
    }

    // ---- what would be best

    private static void keyByFelling(Drawn wall) {
        MightHaveBeenPutUp x = wall.make();
        int best = NONE;
        int most = NONE;
        for (int cell = 0; cell < 64; cell++) {
            int fallen = wall.make().fell(cell);
            if (fallen != STATE && fallen - 1 > most) {
                most = fallen - 1;
                best = cell;
            }
        }
        due("KEY", wall, x.key(0), best);
        due("how many others FALL", wall, x.key(1), most);
    }

    private static void shareByCounting(Drawn wall) {
        MightHaveBeenPutUp x = wall.make();
        long all = Long.bitCount(x.wall(-2));
        for (int one = 0; one < wall.regrets && all > 0; one++) {
            long above = x.share(one, 0);
            long below = x.share(one, 1);
            due("SHARE", wall, above * all, below * x.told(one, 7));
            due("in lowest terms", wall, greatestCommon(above, below), 1);
        }
    }

    private static long greatestCommon(long a, long b) {
        return b == 0 ? a : greatestCommon(b, a % b);
    }

    private static void roomByRaising(Drawn wall) {
        MightHaveBeenPutUp x = wall.make();
        for (int part = 0; part < 6; part++) {
            long room = x.room(part);
            for (int at = 0; at < 64; at++) {
                MightHaveBeenPutUp y = wall.make();
                int before = y.told(0, 7);
                int then = y.raise(0, part, at);
                due("room for " + part + " at " + at, wall, then == STATE ? 0 : 1, room >>> at & 1);
                due("raised " + part + " at " + at, wall, y.told(0, 7), then == STATE ? before : then);
            }
        }
    }

    private static void addByRaising(Drawn wall) {
        int one = wall.seed % wall.regrets;
        int n = 1 + wall.seed % 4;
        MightHaveBeenPutUp so = wall.make();
        years(so, n);
        int most = so.count(1);
        int best = NONE;
        for (int part = 0; part < 6; part++) {
            for (int at = 0; at < 64; at++) {
                MightHaveBeenPutUp y = wall.make();
                if (y.raise(one, part, at) == STATE) {
                    continue;
                }
                years(y, n);
                if (y.count(1) > most) {
                    most = y.count(1);
                    best = 100 * part + at;
                }
            }
        }
        MightHaveBeenPutUp x = wall.make();
        due("ADD", wall, x.add(one, n, 0), best);
        due("so many are PUT UP then", wall, x.add(one, n, 1), most);
    }

    private static void reachByRaising(Drawn wall) {
        MightHaveBeenPutUp x = wall.make();
        long none = x.wall(-2);
        long first = none | raised(x);
        long second = first;
        for (int part = 0; part < 6; part++) {
            for (int at = 0; at < 64; at++) {
                MightHaveBeenPutUp y = wall.make();
                if (y.raise(0, part, at) != STATE) {
                    second |= raised(y);
                }
            }
        }
        for (int cell = 0; cell < 64; cell++) {
            int want = has(none, cell) ? 0 : has(first, cell) ? 1 : has(second, cell) ? 2 : NONE;
            due("REACH " + cell, wall, x.reach(cell), want);
        }
    }

    /** All CELLS of all PARTS that can go anywhere. */
    private static long raised(MightHaveBeenPutUp x) {
        long cells = 0;
        for (int part = 0; part < 6; part++) {
            long room = x.room(part);
            for (int at = 0; at < 64; at++) {
                if (has(room, at)) {
                    cells |= Check.cells(Edge.partAt(part, at));
                }
            }
        }
        return cells;
    }

    // ---- years that were told

    private static void drawnByFelling(Drawn wall) {
        int[] seeds = {wall.seed, -1 - wall.seed, 1 << wall.seed % 32, Integer.MAX_VALUE - wall.seed};
        for (int seed : seeds) {
            MightHaveBeenPutUp x = wall.make();
            MightHaveBeenPutUp y = wall.make();
            int z = seed;
            for (int n = 0; n <= 40; n++) {
                due("DRAWN by " + seed + ", YEARS " + n, wall, x.drawn(seed, n), y.count(1));
                z = z * 1103515245 + 12345;
                y.fell((z >>> 9) % 64);
                y.year();
            }
        }
    }

    private static void chanceByDrawn(Drawn wall) {
        MightHaveBeenPutUp x = wall.make();
        int m = 1 + wall.seed % 20;
        int seed = Integer.MAX_VALUE - wall.seed / 2;
        for (int k = 0; k <= 12; k++) {
            int those = 0;
            for (int i = 0; i < m; i++) {
                those += x.drawn(seed + i, 10) >= k ? 1 : 0;
            }
            long above = x.chance(seed, m, k, 0);
            long below = x.chance(seed, m, k, 1);
            due("IN m seeds", wall, above * m, below * those);
            due("in lowest terms", wall, greatestCommon(above, below), 1);
        }
    }

    private static void laidBack(Drawn wall) {
        MightHaveBeenPutUp x = wall.make();
        List<String> was = Scene.shown(x);
        due("AN IMAGE is kept", wall, x.image(), wall.regrets);
        Random random = new Random(wall.seed);
        for (int turn = 0; turn < 9; turn++) {
            x.raise(random.nextInt(wall.regrets), random.nextInt(6), random.nextInt(64));
            x.set(3, random.nextInt(64), random.nextInt(2));
            x.set(1, random.nextInt(wall.regrets), random.nextInt(10));
            x.fell(random.nextInt(64));
            x.year();
        }
        x.regret(0, 0, 99);
        x.force(0);
        due("all is laid back", wall, x.back(), wall.regrets);
        Edge.same("wall " + wall.seed + ": as in THE IMAGE", Scene.shown(x), was);
    }

    /** Each supposed thing made true, and the sheet asked anew: is anything otherwise? */
    private static void toldOfFilm(Drawn wall) {
        int one = wall.seed % wall.regrets;
        int n = 1 + wall.seed % 12;
        MightHaveBeenPutUp x = wall.make();
        x.film(0, one, n);
        int kinds = 0;
        for (int kind = 0; kind < 6; kind++) {
            kinds |= isTold(wall, wall.withKind(one, kind).make(), one, n) << kind;
        }
        due("KINDS", wall, x.tells(0, one, 1), kinds);
        int numbers = 0;
        for (int number = 0; number < 10; number++) {
            MightHaveBeenPutUp y = wall.make();
            y.set(1, one, number);
            numbers |= isTold(wall, y, one, n) << number;
        }
        due("NUMBERS", wall, x.tells(0, one, 2), numbers);
        int regrets = 0;
        for (int other = 0; other < wall.regrets; other++) {
            x.film(1, other, n);
            regrets |= isLike(x, n, one, other) << other;
        }
        due("REGRETS", wall, x.tells(0, one, 6), regrets);
        toldFirms(wall, x, one, n);
        toldTexts(wall, x, one, n);
    }

    private static void toldFirms(Drawn wall, MightHaveBeenPutUp x, int one, int n) {
        int many = 0;
        int least = NONE;
        for (int firm = 99; firm >= 0; firm--) {
            MightHaveBeenPutUp y = wall.make();
            y.set(2, one, firm);
            if (isTold(wall, y, one, n) == 1) {
                many++;
                least = firm;
            }
        }
        due("FIRMS, how many", wall, x.tells(0, one, 3), many);
        due("FIRMS, the least", wall, x.tells(0, one, 4), least);
    }

    private static void toldTexts(Drawn wall, MightHaveBeenPutUp x, int one, int n) {
        int texts = 0;
        for (int text = 0; text < x.count(3); text++) {
            MightHaveBeenPutUp y = wall.make();
            y.force(text);
            texts |= isTold(wall, y, one, n) << text;
        }
        due("TEXTS", wall, x.tells(0, one, 5), texts);
    }

    /** Whether the years of y, truly gone through, are those that the wall tells in thought. */
    private static int isTold(Drawn wall, MightHaveBeenPutUp y, int one, int n) {
        MightHaveBeenPutUp x = wall.make();
        for (int i = 1; i <= n; i++) {
            y.year();
            if (x.run(one, i, 1) != y.told(one, 7)) {
                return 0;
            }
        }
        return 1;
    }

    private static int isLike(MightHaveBeenPutUp x, int n, int one, int other) {
        for (int i = 1; i <= n; i++) {
            if (x.run(one, i, 1) != x.run(other, i, 1)) {
                return 0;
            }
        }
        return 1;
    }
}
