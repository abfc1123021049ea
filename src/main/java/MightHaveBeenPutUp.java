import java.util.Arrays;

/**
 * Carpenter to the might have been: a wall of sixty four cells, the regrets for which parts are put up
 * on it, the rule by which they hold, fade and are paid, and what would stand in the years to come.
 * The numbered promises of the document say what each call answers.
 */
public final class MightHaveBeenPutUp {
    public static final int NONE = -1, BAD = -2, STATE = -3, FULL = -4;
    public static final long NO = -4611686018427387904L;

    private static final int NOTHING = -11, OUTSIDE = -12, UNLIKE = -13, TOO_SMALL = -14;
    private static final int FAULTY = -100;

    private static final int CELLS = 64;
    private static final int MOST_REGRETS = 5, MOST_NUMBER = 9, MOST_FIRM = 99;
    private static final int MOST_YEAR = 999, MOST_PAID = 99999;
    private static final int MOST_TEXTS = 6, MOST_TAPE = 160, MOST_OPEN = 5;
    private static final int MOST_RUN = 40, MOST_ADD = 20, MOST_TOLD = 20, MOST_STEPS = 63;
    private static final int MOST_SEEDS = 20, CHANCE_YEARS = 10;
    private static final int SHEETS = 4, MOST_ITEMS = 40, SORTS = 3, MISSING = -1;
    private static final int IS_HOUSE = 9;
    private static final int OTHERWISE = 0, TOLD_KINDS = 1, TOLD_NUMBERS = 2, TOLD_FIRMS = 3, TOLD_LEAST_FIRM = 4;
    private static final int TOLD_TEXTS = 5, TOLD_REGRETS = 6;

    private static final int KINDS = 6;
    private static final int REGRET = 0, BOY = 1, CLERK = 2, STAIR = 3, VIEW = 4, SAWDUST = 5;
    private static final int[] KIND_ABOVE = {NONE, REGRET, REGRET, BOY, CLERK, REGRET};

    private static final int HOLDS_TEXT = 0, FADES_TEXT = 1, COSTS_TEXT = 2, TEXT_PARTS = 3;

    private final Text[] texts = new Text[MOST_TEXTS];
    private final World now = new World(texts);
    private final World thought = new World(texts);
    private final World kept = new World(texts);
    private final Reader reader = new Reader();
    private final Sheet[] sheets = new Sheet[SHEETS];
    private int textCount;
    private boolean imageKept;

    public MightHaveBeenPutUp() {
        texts[0] = new Text(new int[] {~Reader.FIRM, 2, ~Reader.PARTS}, new int[] {1, 2, 3});
        textCount = 1;
        for (int i = 0; i < SHEETS; i++) {
            sheets[i] = new Sheet();
        }
    }

    // ---- the wall, regrets

    public int set(int what, int of, int v) {
        switch (what) {
            case 0:
                return changeYear(v);
            case 1:
                return changeOfOne(now.numbers, of, v, MOST_NUMBER);
            case 2:
                return changeOfOne(now.firms, of, v, MOST_FIRM);
            case 3:
                return changeHouse(of, v);
            default:
                return BAD;
        }
    }

    public int regret(int kind, int number, int firm) {
        if (!isKind(kind) || !within(number, MOST_NUMBER) || !within(firm, MOST_FIRM)) {
            return BAD;
        }
        if (now.regrets >= MOST_REGRETS) {
            return FULL;
        }
        int one = now.regrets;
        now.kinds[one] = kind;
        now.numbers[one] = number;
        now.firms[one] = firm;
        now.up[one] = 0L;
        now.regrets = one + 1;
        return one;
    }

    public int told(int of, int what) {
        if (what == 0) {
            return now.year;
        }
        if (what == 8) {
            return isCell(of) ? now.whose(of) : BAD;
        }
        return isOne(of) ? toldOfOne(of, what) : BAD;
    }

    public long wall(int what) {
        if (what == -1) {
            return now.house;
        }
        if (what == -2) {
            return now.stands();
        }
        return isOne(what) ? now.up[what] : NO;
    }

    // ---- texts

    public int feed(int letter) {
        if (!within(letter, 255)) {
            return BAD;
        }
        return reader.hasRoom() ? reader.take(letter) : FULL;
    }

    public int text() {
        if (textCount >= MOST_TEXTS) {
            return FULL;
        }
        int fault = reader.read();
        if (fault != NONE) {
            return FAULTY - fault;
        }
        int number = textCount;
        texts[number] = reader.made();
        textCount = number + 1;
        return number;
    }

    public int force(int text) {
        if (text < 0 || text >= textCount) {
            return BAD;
        }
        int was = now.rule;
        now.rule = text;
        return was;
    }

    // ---- parts, years

    public int raise(int one, int part, int at) {
        if (!isOne(one) || !isPart(part) || !isCell(at)) {
            return BAD;
        }
        if (!Wall.has(Wall.places(part, now.stands()), at)) {
            return STATE;
        }
        now.up[one] |= Wall.cellsOf(part, at);
        return Long.bitCount(now.up[one]);
    }

    public int fell(int cell) {
        if (!isCell(cell)) {
            return BAD;
        }
        if (!Wall.has(now.allUp(), cell)) {
            return STATE;
        }
        int before = now.countUp();
        now.dropCell(cell);
        return before - now.countUp();
    }

    public long room(int part) {
        return isPart(part) ? Wall.places(part, now.stands()) : NO;
    }

    public int year() {
        if (now.year >= MOST_YEAR) {
            return STATE;
        }
        int before = now.countUp();
        now.passYear();
        return before - now.countUp();
    }

    public int run(int one, int n, int what) {
        if (!isOne(one) || !within(n, MOST_RUN) || !within(what, 3)) {
            return BAD;
        }
        think(n);
        switch (what) {
            case 0:
                return thought.countUp();
            case 1:
                return Long.bitCount(thought.up[one]);
            case 2:
                return thought.paid;
            default:
                return thought.firms[one];
        }
    }

    public long later(int n) {
        if (!within(n, MOST_RUN)) {
            return NO;
        }
        think(n);
        return thought.stands();
    }

    // ---- ways, what would be best

    public int walk(int from, int to) {
        if (!isCell(from) || !isCell(to)) {
            return BAD;
        }
        long stands = now.stands();
        long come = (1L << from) & stands;
        for (int steps = 0; steps < CELLS; steps++) {
            if (Wall.has(come, to)) {
                return steps;
            }
            come |= Wall.beside(come) & stands;
        }
        return NONE;
    }

    public long round(int from, int n) {
        if (!isCell(from) || !within(n, MOST_STEPS)) {
            return NO;
        }
        long stands = now.stands();
        long come = (1L << from) & stands;
        for (int step = 0; step < n; step++) {
            come |= Wall.beside(come) & stands;
        }
        return come;
    }

    public int reach(int cell) {
        if (!isCell(cell)) {
            return BAD;
        }
        long stands = now.stands();
        if (Wall.has(stands, cell)) {
            return 0;
        }
        if (Wall.reachedByOne(stands, cell)) {
            return 1;
        }
        return Wall.reachedByTwo(stands, cell) ? 2 : NONE;
    }

    public int key(int what) {
        if (!within(what, 1)) {
            return BAD;
        }
        long up = now.allUp();
        int best = NONE;
        int most = NONE;
        for (int c = 0; c < CELLS; c++) {
            if (Wall.has(up, c)) {
                int others = now.fallWithout(c);
                if (others > most) {
                    most = others;
                    best = c;
                }
            }
        }
        return what == 0 ? best : most;
    }

    public int add(int one, int n, int what) {
        if (!isOne(one) || n < 1 || n > MOST_ADD || !within(what, 1)) {
            return BAD;
        }
        thought.become(now);
        int most = thought.countBehind(n, NONE);
        int best = NONE;
        for (int part = 0; part < Wall.PARTS; part++) {
            long places = Wall.places(part, now.stands());
            for (int at = 0; at < CELLS; at++) {
                if (Wall.has(places, at)) {
                    thought.become(now);
                    thought.up[one] |= Wall.cellsOf(part, at);
                    int then = thought.countBehind(n, most);
                    if (then > most) {
                        most = then;
                        best = 100 * part + at;
                    }
                }
            }
        }
        return what == 0 ? best : most;
    }

    public long share(int one, int part) {
        int all = Long.bitCount(now.stands());
        if (!isOne(one) || !within(part, 1) || all == 0) {
            return NO;
        }
        return lowest(Long.bitCount(now.up[one]), all, part);
    }

    // ---- years that were told

    public int tells(int sheet, int one, int what) {
        if (!isSheet(sheet) || !isOne(one) || !within(what, TOLD_REGRETS)) {
            return BAD;
        }
        Sheet told = sheets[sheet];
        if (told.isMissing()) {
            return NOTHING;
        }
        if (told.size > MOST_TOLD) {
            return BAD;
        }
        if (what == OTHERWISE) {
            thought.become(now);
            return firstOtherwise(told, one);
        }
        return supposedTold(told, one, what);
    }

    public int film(int sheet, int one, int n) {
        if (!isSheet(sheet) || !isOne(one) || !within(n, MOST_TOLD)) {
            return BAD;
        }
        Sheet row = sheets[sheet];
        row.become(0, n);
        thought.become(now);
        for (int i = 0; i < n; i++) {
            thought.passYear();
            row.put(i, Long.bitCount(thought.up[one]));
        }
        return n;
    }

    public int drawn(int seed, int n) {
        return within(n, MOST_RUN) ? countDrawn(seed, n) : BAD;
    }

    public long chance(int seed, int m, int k, int part) {
        if (m < 1 || m > MOST_SEEDS || !within(k, CELLS) || !within(part, 1)) {
            return NO;
        }
        int those = 0;
        for (int i = 0; i < m; i++) {
            if (countDrawn(seed + i, CHANCE_YEARS) >= k) {
                those++;
            }
        }
        return lowest(those, m, part);
    }

    public int image() {
        kept.become(now);
        imageKept = true;
        return now.regrets;
    }

    public int back() {
        if (!imageKept) {
            return STATE;
        }
        now.become(kept);
        return now.regrets;
    }

    public int count(int what) {
        switch (what) {
            case 0:
                return now.regrets;
            case 1:
                return now.countUp();
            case 2:
                return now.paid;
            case 3:
                return textCount;
            case 4:
                return reader.size;
            case 5:
                return now.rule;
            default:
                return BAD;
        }
    }

    // ---- the host

    public int sheet(int sheet, int sort, int n) {
        if (!isSheet(sheet) || sort < MISSING || sort >= SORTS) {
            return BAD;
        }
        if (sort == MISSING) {
            sheets[sheet].become(MISSING, 0);
            return 1;
        }
        if (n > MOST_ITEMS) {
            return BAD;
        }
        if (n < 0) {
            return TOO_SMALL;
        }
        sheets[sheet].become(sort, n);
        return 1;
    }

    public int cell(int sheet, int i, int v) {
        if (!isSheet(sheet)) {
            return BAD;
        }
        Sheet row = sheets[sheet];
        if (row.isMissing()) {
            return NOTHING;
        }
        if (i < 0 || i >= row.size) {
            return OUTSIDE;
        }
        row.put(i, v);
        return 1;
    }

    public int copy(int sheet, int i, int other, int j, int n) {
        if (!isSheet(sheet) || !isSheet(other)) {
            return BAD;
        }
        Sheet from = sheets[sheet];
        Sheet to = sheets[other];
        if (from.isMissing() || to.isMissing()) {
            return NOTHING;
        }
        if (from.sort != to.sort) {
            return UNLIKE;
        }
        if (!from.hasRange(i, n) || !to.hasRange(j, n)) {
            return OUTSIDE;
        }
        System.arraycopy(from.items, i, to.items, j, n);
        return n;
    }

    public int bag(int sheet, int sort, int from, int n) {
        if (!isSheet(sheet) || !within(sort, SORTS - 1) || !within(n, MOST_REGRETS)) {
            return BAD;
        }
        Sheet row = sheets[sheet];
        if (row.isMissing()) {
            return NOTHING;
        }
        if (row.sort != sort) {
            return UNLIKE;
        }
        int came = 0;
        for (int k = 0; k < n; k++) {
            // told by what is left of the row, as from + 3 * k could wrap
            if (from < 0 || from > row.size - 3 * k - 3) {
                return OUTSIDE;
            }
            int at = from + 3 * k;
            if (regret(row.items[at], row.items[at + 1], row.items[at + 2]) >= 0) {
                came++;
            }
        }
        return came;
    }

    public int taken(int one, int k) {
        if (!isKind(k)) {
            return BAD;
        }
        if (!isOne(one)) {
            return NOTHING;
        }
        return isUnder(now.kinds[one], k) ? now.numbers[one] : UNLIKE;
    }

    // ---- what is such

    private static boolean within(int v, int most) {
        return v >= 0 && v <= most;
    }

    private static boolean isCell(int cell) {
        return within(cell, CELLS - 1);
    }

    private static boolean isKind(int kind) {
        return within(kind, KINDS - 1);
    }

    private static boolean isPart(int part) {
        return within(part, Wall.PARTS - 1);
    }

    private static boolean isSheet(int sheet) {
        return within(sheet, SHEETS - 1);
    }

    private boolean isOne(int one) {
        return one >= 0 && one < now.regrets;
    }

    /** A kind is under itself too, so the way up starts with the kind. */
    private static boolean isUnder(int kind, int above) {
        int at = kind;
        for (int level = 0; level < KINDS && isKind(at); level++) {
            if (at == above) {
                return true;
            }
            at = KIND_ABOVE[at];
        }
        return false;
    }

    // ---- changes

    private int changeYear(int v) {
        if (!within(v, MOST_YEAR)) {
            return BAD;
        }
        int was = now.year;
        now.year = v;
        return was;
    }

    private int changeOfOne(int[] row, int one, int v, int most) {
        if (!isOne(one) || !within(v, most)) {
            return BAD;
        }
        int was = row[one];
        row[one] = v;
        return was;
    }

    private int changeHouse(int cell, int v) {
        if (!isCell(cell) || !within(v, 1) || Wall.has(now.allUp(), cell)) {
            return BAD;
        }
        int was = Wall.has(now.house, cell) ? 1 : 0;
        long bit = 1L << cell;
        now.house = v == 1 ? now.house | bit : now.house & ~bit;
        now.dropLoose();
        return was;
    }

    // ---- answers

    private int toldOfOne(int one, int what) {
        switch (what) {
            case 1:
                return now.numbers[one];
            case 2:
                return now.firms[one];
            case 3:
                return now.kinds[one];
            case 4:
                return now.holds(one);
            case 5:
                return now.fades(one);
            case 6:
                return now.costs(one);
            case 7:
                return Long.bitCount(now.up[one]);
            default:
                return BAD;
        }
    }

    /** What is above (part 0) or below (part 1) the line; below has to be 1 at least. */
    private static int lowest(int above, int below, int part) {
        int told = part == 0 ? above : below;
        for (int d = below; d > 1; d--) {
            if (above % d == 0 && below % d == 0) {
                return told / d;
            }
        }
        return told;
    }

    private void think(int n) {
        thought.become(now);
        for (int i = 0; i < n; i++) {
            thought.passYear();
        }
    }

    private int countDrawn(int seed, int n) {
        thought.become(now);
        int z = seed;
        for (int i = 0; i < n; i++) {
            z = z * 1103515245 + 12345;
            thought.dropCell((z >>> 9) % CELLS);
            thought.passYear();
        }
        return thought.countUp();
    }

    /** Of the years from what is thought now on: which the sheet tells otherwise. */
    private int firstOtherwise(Sheet told, int one) {
        for (int i = 0; i < told.size; i++) {
            thought.passYear();
            if (Long.bitCount(thought.up[one]) != told.items[i]) {
                return i;
            }
        }
        return NONE;
    }

    /** Of what can be supposed: by which of it all would be as told, in bits; of firms how many, the least. */
    private int supposedTold(Sheet told, int one, int what) {
        int bits = 0;
        int many = 0;
        int end = suppositions(what);
        for (int v = 0; v < end; v++) {
            suppose(what, one, v);
            if (firstOtherwise(told, what == TOLD_REGRETS ? v : one) == NONE) {
                if (what == TOLD_LEAST_FIRM) {
                    return v;
                }
                many++;
                bits |= 1 << v;
            }
        }
        if (what == TOLD_LEAST_FIRM) {
            return NONE;
        }
        return what == TOLD_FIRMS ? many : bits;
    }

    private int suppositions(int what) {
        switch (what) {
            case TOLD_KINDS:
                return KINDS;
            case TOLD_NUMBERS:
                return MOST_NUMBER + 1;
            case TOLD_TEXTS:
                return textCount;
            case TOLD_REGRETS:
                return now.regrets;
            default:
                return MOST_FIRM + 1;
        }
    }

    /** As all is now, but for v; of regrets, each is asked as it is. */
    private void suppose(int what, int one, int v) {
        thought.become(now);
        switch (what) {
            case TOLD_KINDS:
                thought.kinds[one] = v;
                break;
            case TOLD_NUMBERS:
                thought.numbers[one] = v;
                break;
            case TOLD_FIRMS:
            case TOLD_LEAST_FIRM:
                thought.firms[one] = v;
                break;
            case TOLD_TEXTS:
                thought.rule = v;
                break;
            default:
                break;
        }
    }

    /** Sets of cells as longs, and the parts that can go onto them. */
    private static final class Wall {
        static final int PARTS = 6;

        private static final int PART_CELLS = 4;
        /** Four cells a part, counted from where it is at; the smaller parts tell their last cell again. */
        private static final int[] OFFSETS = {
            0, 0, 0, 0,
            0, 1, 1, 1,
            0, 1, 9, 9,
            0, 1, 2, 2,
            0, 8, 16, 16,
            0, 1, 8, 9,
        };
        /** Where a part is wholly on the wall, so that no shift runs over a side. */
        private static final long[] ON_WALL = {
            -1L,
            0x7f7f7f7f7f7f7f7fL,
            0x007f7f7f7f7f7f7fL,
            0x3f3f3f3f3f3f3f3fL,
            0x0000ffffffffffffL,
            0x007f7f7f7f7f7f7fL,
        };
        private static final long NOT_FIRST_COLUMN = 0xfefefefefefefefeL;
        private static final long NOT_LAST_COLUMN = 0x7f7f7f7f7f7f7f7fL;

        static boolean has(long cells, int cell) {
            return (cells >>> cell & 1L) != 0L;
        }

        static long beside(long cells) {
            return cells << 8 | cells >>> 8
                | (cells & NOT_LAST_COLUMN) << 1 | (cells & NOT_FIRST_COLUMN) >>> 1;
        }

        static long held(long house, long stands) {
            long come = house;
            for (int step = 0; step < CELLS; step++) {
                long next = come | beside(come) & stands;
                if (next == come) {
                    return come;
                }
                come = next;
            }
            return come;
        }

        static long cellsOf(int part, int at) {
            long cells = 0L;
            for (int i = 0; i < PART_CELLS; i++) {
                cells |= 1L << at + OFFSETS[PART_CELLS * part + i];
            }
            return cells;
        }

        /** Where the part would have any of these cells (true only where it is on the wall). */
        private static long touching(int part, long cells) {
            long where = 0L;
            for (int i = 0; i < PART_CELLS; i++) {
                where |= cells >>> OFFSETS[PART_CELLS * part + i];
            }
            return where;
        }

        static long places(int part, long stands) {
            return ON_WALL[part] & touching(part, beside(stands)) & ~touching(part, stands);
        }

        static boolean reachedByOne(long stands, int cell) {
            for (int i = 0; i < OFFSETS.length; i++) {
                int at = cell - OFFSETS[i];
                if (at >= 0 && has(places(i / PART_CELLS, stands), at)) {
                    return true;
                }
            }
            return false;
        }

        /** Asked only where one part doesn't reach the cell: the second is then held by the first alone. */
        static boolean reachedByTwo(long stands, int cell) {
            for (int i = 0; i < OFFSETS.length; i++) {
                int second = i / PART_CELLS;
                int at = cell - OFFSETS[i];
                if (at >= 0 && has(ON_WALL[second], at) && isMadeRoom(stands, cellsOf(second, at))) {
                    return true;
                }
            }
            return false;
        }

        /** Whether a part can go beside these cells, but on none of them. */
        private static boolean isMadeRoom(long stands, long cells) {
            if ((cells & stands) != 0L) {
                return false;
            }
            long near = beside(cells);
            for (int first = 0; first < PARTS; first++) {
                if ((places(first, stands) & touching(first, near) & ~touching(first, cells)) != 0L) {
                    return true;
                }
            }
            return false;
        }
    }

    /** All that the years change: the true one, one in thought, one kept. */
    private static final class World {
        final int[] kinds = new int[MOST_REGRETS];
        final int[] numbers = new int[MOST_REGRETS];
        final int[] firms = new int[MOST_REGRETS];
        final long[] up = new long[MOST_REGRETS];
        int regrets;
        int year;
        int paid;
        int rule;
        long house = 0xffL;

        private final Text[] texts;
        private final int[] names = new int[Reader.NAMES];
        private final int[] stack = new int[MOST_TAPE];

        World(Text[] texts) {
            this.texts = texts;
        }

        void become(World other) {
            for (int i = 0; i < MOST_REGRETS; i++) {
                kinds[i] = other.kinds[i];
                numbers[i] = other.numbers[i];
                firms[i] = other.firms[i];
                up[i] = other.up[i];
            }
            regrets = other.regrets;
            year = other.year;
            paid = other.paid;
            rule = other.rule;
            house = other.house;
        }

        long allUp() {
            long all = 0L;
            for (int one = 0; one < regrets; one++) {
                all |= up[one];
            }
            return all;
        }

        long stands() {
            return house | allUp();
        }

        int countUp() {
            return Long.bitCount(allUp());
        }

        int whose(int cell) {
            for (int one = 0; one < regrets; one++) {
                if (Wall.has(up[one], cell)) {
                    return one;
                }
            }
            return Wall.has(house, cell) ? IS_HOUSE : NONE;
        }

        void dropLoose() {
            long held = Wall.held(house, stands());
            for (int one = 0; one < regrets; one++) {
                up[one] &= held;
            }
        }

        /** Of a cell that isn't put up nothing is changed: all that stands is held already. */
        void dropCell(int cell) {
            for (int one = 0; one < regrets; one++) {
                up[one] &= ~(1L << cell);
            }
            dropLoose();
        }

        /** Asked only where something is put up for one. */
        private int highestCell(int one) {
            return CELLS - 1 - Long.numberOfLeadingZeros(up[one]);
        }

        int fallWithout(int cell) {
            long rest = stands() & ~(1L << cell);
            return Long.bitCount(rest & ~Wall.held(house, rest));
        }

        void passYear() {
            for (int one = 0; one < regrets; one++) {
                int less = fades(one);
                int more = costs(one);
                firms[one] = Math.max(0, firms[one] - less);
                paid = Math.min(MOST_PAID, paid + more);
                for (int turn = 0; turn < CELLS && up[one] != 0L; turn++) {
                    if (Long.bitCount(up[one]) <= holds(one)) {
                        break;
                    }
                    dropCell(highestCell(one));
                }
            }
            year++;
        }

        /** Years never put a cell up, so what has come down to the floor needs no more of them. */
        int countBehind(int n, int floor) {
            int many = countUp();
            for (int i = 0; i < n && many > floor; i++) {
                passYear();
                many = countUp();
            }
            return many;
        }

        int holds(int one) {
            int v = tell(one, HOLDS_TEXT);
            int boy = year < 10 ? v + 4 : v;
            int much = v;
            switch (kinds[one]) {
                case BOY:
                    much = boy;
                    break;
                case CLERK:
                    much = 2 * v;
                    break;
                case STAIR:
                    much = Math.max(boy, numbers[one]);
                    break;
                case VIEW:
                    much = firms[one] == 0 ? 0 : 2 * v;
                    break;
                case SAWDUST:
                    much = CELLS;
                    break;
                default:
                    break;
            }
            return Math.min(CELLS, much);
        }

        int fades(int one) {
            int v = tell(one, FADES_TEXT);
            int boy = numbers[one] == 0 ? 0 : v;
            int much = v;
            switch (kinds[one]) {
                case BOY:
                    much = boy;
                    break;
                case CLERK:
                    much = v / 2;
                    break;
                case STAIR:
                    much = boy + 1;
                    break;
                case VIEW:
                    much = year % 2 == 1 ? v / 2 : 0;
                    break;
                case SAWDUST:
                    much = 0;
                    break;
                default:
                    break;
            }
            return Math.min(Text.MOST_FADES, much);
        }

        int costs(int one) {
            int v = tell(one, COSTS_TEXT);
            int clerk = v + numbers[one];
            int much = v;
            switch (kinds[one]) {
                case BOY:
                case STAIR:
                    much = v / 2;
                    break;
                case CLERK:
                    much = clerk;
                    break;
                case VIEW:
                    much = 2 * clerk;
                    break;
                case SAWDUST:
                    much = 0;
                    break;
                default:
                    break;
            }
            return Math.min(Text.MOST_COSTS, much);
        }

        /** What the rule tells of one, as all is now. */
        private int tell(int one, int textPart) {
            Text text = texts[rule];
            if (text == null) {
                return 0;
            }
            names[0] = firms[one];
            names[1] = numbers[one];
            names[2] = year;
            names[3] = Long.bitCount(up[one]);
            names[4] = up[one] == 0L ? 0 : highestCell(one) / 8;
            names[5] = paid % 100;
            int v = text.value(textPart, names, stack);
            int most = textPart == COSTS_TEXT ? Text.MOST_COSTS : Text.MOST_FADES;
            return Math.max(0, Math.min(most, v));
        }
    }

    /** A text as it was read: its three expressions, operands ahead of what joins them. */
    private static final class Text {
        static final int MOST_FADES = 99, MOST_COSTS = 999;

        /** A number as it is, all else as its token's complement, which is below 0. */
        private final int[] code;
        private final int[] ends;

        Text(int[] code, int[] ends) {
            this.code = code;
            this.ends = ends;
        }

        /** The stack has room for as many numbers as a text can have. */
        int value(int textPart, int[] names, int[] stack) {
            int top = 0;
            int from = textPart == 0 ? 0 : ends[textPart - 1];
            for (int i = from; i < ends[textPart] && top < stack.length; i++) {
                int item = code[i];
                int token = ~item;
                if (item >= 0) {
                    stack[top] = item;
                    top++;
                } else if (Reader.isName(token)) {
                    stack[top] = names[token - Reader.FIRM];
                    top++;
                } else if (token == Reader.NOT && top >= 1) {
                    stack[top - 1] = stack[top - 1] == 0 ? 1 : 0;
                } else if (token == Reader.NEGATE && top >= 1) {
                    stack[top - 1] = -stack[top - 1];
                } else if (top >= 2) {
                    top--;
                    stack[top - 1] = joined(token, stack[top - 1], stack[top]);
                }
            }
            return stack[0];
        }

        private static int joined(int token, int a, int b) {
            switch (token) {
                case Reader.OR:
                    return a != 0 || b != 0 ? 1 : 0;
                case Reader.AND:
                    return a != 0 && b != 0 ? 1 : 0;
                case Reader.LESS:
                    return a < b ? 1 : 0;
                case Reader.EQUAL:
                    return a == b ? 1 : 0;
                case Reader.PLUS:
                    return a + b;
                case Reader.MINUS:
                    return a - b;
                default:
                    return a * b;
            }
        }
    }

    /** The tape, and the reading of a text from it, a token at a time. */
    private static final class Reader {
        static final int OR = 3, AND = 4, NOT = 5, FIRM = 6, PARTS = 9;
        static final int PLUS = 15, MINUS = 16, LESS = 18, EQUAL = 19, NEGATE = 23;
        static final int NAMES = 6;

        private static final int HOLDS = 0, OPEN = 12, CLOSE = 13, SEMICOLON = 14, TIMES = 17;
        private static final int NUMBER = 20, END = 21, WRONG = 22;

        /** The words of tokens 0 to 11, each filled up to six letters. */
        private static final String WORDS =
            "holds fades costs or    and   not   firm  numberyear  parts high  paid  ";
        private static final int WORD_COUNT = 12, WORD_WIDTH = 6, MOST_DIGITS = 4;
        /** The signs of tokens 12 to 19. */
        private static final String SIGNS = "();+-*<=";

        int size;

        private final int[] tape = new int[MOST_TAPE];
        private final int[] code = new int[MOST_TAPE];
        private final int[] ends = new int[TEXT_PARTS];
        private int codeSize;
        private int next;
        private int token;
        private int tokenPlace;
        private int tokenNumber;
        private int open;
        private int fault;

        static boolean isName(int token) {
            return token >= FIRM && token < FIRM + NAMES;
        }

        boolean hasRoom() {
            return size < MOST_TAPE;
        }

        /** Asked only where there is room. */
        int take(int letter) {
            tape[size] = letter;
            size++;
            return size;
        }

        /** The fault's place, or NONE; the tape is empty then. */
        int read() {
            codeSize = 0;
            next = 0;
            open = 0;
            fault = NONE;
            step();
            for (int part = 0; part < TEXT_PARTS; part++) {
                expect(HOLDS + part);
                readEither();
                expect(SEMICOLON);
                ends[part] = codeSize;
            }
            expect(END);
            size = 0;
            return fault;
        }

        /** What was read last, where it had no fault. */
        Text made() {
            return new Text(Arrays.copyOf(code, codeSize), Arrays.copyOf(ends, TEXT_PARTS));
        }

        private void readEither() {
            readBoth();
            for (int turn = 0; turn < MOST_TAPE && token == OR; turn++) {
                step();
                readBoth();
                write(~OR);
            }
        }

        private void readBoth() {
            readNot();
            for (int turn = 0; turn < MOST_TAPE && token == AND; turn++) {
                step();
                readNot();
                write(~AND);
            }
        }

        private void readNot() {
            if (token == NOT) {
                if (opens()) {
                    readNot();
                    open--;
                    write(~NOT);
                }
                return;
            }
            readSum();
            if (token == LESS || token == EQUAL) {
                int sign = token;
                step();
                readSum();
                write(~sign);
            }
        }

        private void readSum() {
            readTerm();
            for (int turn = 0; turn < MOST_TAPE && (token == PLUS || token == MINUS); turn++) {
                int sign = token;
                step();
                readTerm();
                write(~sign);
            }
        }

        private void readTerm() {
            readOne();
            for (int turn = 0; turn < MOST_TAPE && token == TIMES; turn++) {
                step();
                readOne();
                write(~TIMES);
            }
        }

        private void readOne() {
            if (token == NUMBER) {
                write(tokenNumber);
                step();
            } else if (isName(token)) {
                write(~token);
                step();
            } else if (token == MINUS) {
                if (opens()) {
                    readOne();
                    open--;
                    write(~NEGATE);
                }
            } else if (token == OPEN) {
                if (opens()) {
                    readEither();
                    open--;
                    expect(CLOSE);
                }
            } else {
                refuse();
            }
        }

        /** Keeps the reading from going deeper than the document lets it. */
        private boolean opens() {
            if (open >= MOST_OPEN) {
                refuse();
                return false;
            }
            open++;
            step();
            return true;
        }

        private void expect(int wanted) {
            if (token == wanted) {
                step();
            } else {
                refuse();
            }
        }

        /** The first fault counts; behind it every token is a wrong one, so that all reading ends. */
        private void refuse() {
            if (fault == NONE) {
                fault = tokenPlace;
            }
            token = WRONG;
        }

        private void write(int item) {
            if (codeSize < MOST_TAPE) {
                code[codeSize] = item;
                codeSize++;
            }
        }

        private void step() {
            if (fault != NONE) {
                return;
            }
            for (int turn = 0; turn < MOST_TAPE && next < size && isBlank(tape[next]); turn++) {
                next++;
            }
            tokenPlace = next;
            if (next >= size) {
                token = END;
            } else if (isLetter(tape[next])) {
                token = wordToken();
            } else if (isDigit(tape[next])) {
                token = numberToken();
            } else {
                int sign = SIGNS.indexOf((char) tape[next]);
                token = sign < 0 ? WRONG : OPEN + sign;
                next++;
            }
        }

        private int wordToken() {
            for (int turn = 0; turn < MOST_TAPE && next < size && isLetter(tape[next]); turn++) {
                next++;
            }
            for (int word = 0; word < WORD_COUNT; word++) {
                if (spells(word, tokenPlace, next)) {
                    return word;
                }
            }
            return WRONG;
        }

        private boolean spells(int word, int from, int end) {
            if (end - from > WORD_WIDTH) {
                return false;
            }
            for (int i = 0; i < WORD_WIDTH; i++) {
                int letter = from + i < end ? tape[from + i] : ' ';
                if (letter != WORDS.charAt(WORD_WIDTH * word + i)) {
                    return false;
                }
            }
            return true;
        }

        private int numberToken() {
            int number = 0;
            for (int turn = 0; turn < MOST_TAPE && next < size && isDigit(tape[next]); turn++) {
                number = 10 * number + tape[next] - '0';
                next++;
            }
            tokenNumber = number;
            return next - tokenPlace > MOST_DIGITS ? WRONG : NUMBER;
        }

        private static boolean isBlank(int letter) {
            return letter == ' ' || letter == '\n';
        }

        private static boolean isLetter(int letter) {
            return letter >= 'a' && letter <= 'z';
        }

        private static boolean isDigit(int letter) {
            return letter >= '0' && letter <= '9';
        }
    }

    /** A row of numbers of a sort, or a missing one. */
    private static final class Sheet {
        final int[] items = new int[MOST_ITEMS];
        int sort = MISSING;
        int size;

        boolean isMissing() {
            return sort == MISSING;
        }

        void become(int newSort, int n) {
            sort = newSort;
            size = n;
            Arrays.fill(items, 0);
        }

        void put(int i, int v) {
            items[i] = sort == 0 ? (byte) v : sort == 1 ? (short) v : v;
        }

        boolean hasRange(int from, int n) {
            return n >= 0 && n <= size && from >= 0 && from <= size - n;
        }
    }
}
