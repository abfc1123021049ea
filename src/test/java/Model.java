import java.util.ArrayDeque;
import java.util.ArrayList;
import java.util.HashMap;
import java.util.List;
import java.util.Map;
import java.util.TreeSet;
import java.util.function.ToIntFunction;

/**
 * The document once more, written from its words alone and in the plainest way, to be asked the same as
 * the class: cells one by one in sets, texts as functions, every what-if on a copy of the whole.
 */
final class Model {
    static final int NONE = -1, BAD = -2, STATE = -3, FULL = -4;
    static final long NO = -4611686018427387904L;

    static final int[][][] SHAPES = {
        {{0, 0}},
        {{0, 0}, {1, 0}},
        {{0, 0}, {1, 0}, {1, 1}},
        {{0, 0}, {1, 0}, {2, 0}},
        {{0, 0}, {0, 1}, {0, 2}},
        {{0, 0}, {1, 0}, {0, 1}, {1, 1}},
    };
    static final int[] ABOVE = {-1, 0, 0, 1, 2, 0};

    static final class Regret {
        int kind;
        int number;
        int firm;
        TreeSet<Integer> up = new TreeSet<>();

        Regret copy() {
            Regret r = new Regret();
            r.kind = kind;
            r.number = number;
            r.firm = firm;
            r.up = new TreeSet<>(up);
            return r;
        }
    }

    static final class Rule {
        ToIntFunction<Map<String, Integer>> holds;
        ToIntFunction<Map<String, Integer>> fades;
        ToIntFunction<Map<String, Integer>> costs;
    }

    final class State {
        TreeSet<Integer> house = new TreeSet<>();
        List<Regret> regrets = new ArrayList<>();
        int year;
        int paid;
        int rule;

        State copy() {
            State s = new State();
            s.house = new TreeSet<>(house);
            for (Regret r : regrets) {
                s.regrets.add(r.copy());
            }
            s.year = year;
            s.paid = paid;
            s.rule = rule;
            return s;
        }

        TreeSet<Integer> up() {
            TreeSet<Integer> all = new TreeSet<>();
            for (Regret r : regrets) {
                all.addAll(r.up);
            }
            return all;
        }

        TreeSet<Integer> stands() {
            TreeSet<Integer> all = up();
            all.addAll(house);
            return all;
        }

        void settle() {
            TreeSet<Integer> stands = stands();
            TreeSet<Integer> held = new TreeSet<>();
            for (int h : house) {
                held.addAll(distances(stands, h).keySet());
            }
            for (Regret r : regrets) {
                r.up.retainAll(held);
            }
        }

        void falls(int cell) {
            for (Regret r : regrets) {
                r.up.remove(cell);
            }
            settle();
        }

        Map<String, Integer> names(Regret r) {
            Map<String, Integer> names = new HashMap<>();
            names.put("firm", r.firm);
            names.put("number", r.number);
            names.put("year", year);
            names.put("parts", r.up.size());
            names.put("high", r.up.isEmpty() ? 0 : r.up.last() / 8);
            names.put("paid", paid % 100);
            return names;
        }

        int holds(Regret r, int kind) {
            int v = bound(texts.get(rule).holds.applyAsInt(names(r)), 99);
            switch (kind) {
                case 0: return bound(v, 64);
                case 1: return bound(holds(r, 0) + (year < 10 ? 4 : 0), 64);
                case 2: return bound(2 * holds(r, 0), 64);
                case 3: return bound(Math.max(holds(r, 1), r.number), 64);
                case 4: return r.firm == 0 ? 0 : holds(r, 2);
                default: return 64;
            }
        }

        int fades(Regret r, int kind) {
            int v = bound(texts.get(rule).fades.applyAsInt(names(r)), 99);
            switch (kind) {
                case 0: return v;
                case 1: return r.number == 0 ? 0 : fades(r, 0);
                case 2: return fades(r, 0) / 2;
                case 3: return bound(fades(r, 1) + 1, 99);
                case 4: return year % 2 != 0 ? fades(r, 2) : 0;
                default: return 0;
            }
        }

        int costs(Regret r, int kind) {
            int v = bound(texts.get(rule).costs.applyAsInt(names(r)), 999);
            switch (kind) {
                case 0: return v;
                case 1: return costs(r, 0) / 2;
                case 2: return bound(costs(r, 0) + r.number, 999);
                case 3: return costs(r, 1);
                case 4: return bound(2 * costs(r, 2), 999);
                default: return 0;
            }
        }

        void pass() {
            for (Regret r : regrets) {
                int fades = fades(r, r.kind);
                int costs = costs(r, r.kind);
                r.firm = Math.max(0, r.firm - fades);
                paid = Math.min(99999, paid + costs);
                while (r.up.size() > holds(r, r.kind)) {
                    falls(r.up.last());
                }
            }
            year++;
        }

        State behind(int n) {
            State s = copy();
            for (int i = 0; i < n; i++) {
                s.pass();
            }
            return s;
        }
    }

    static int bound(int v, int most) {
        return v < 0 ? 0 : v > most ? most : v;
    }

    static List<Integer> beside(int cell) {
        List<Integer> all = new ArrayList<>();
        int column = cell % 8;
        int row = cell / 8;
        if (column > 0) {
            all.add(cell - 1);
        }
        if (column < 7) {
            all.add(cell + 1);
        }
        if (row > 0) {
            all.add(cell - 8);
        }
        if (row < 7) {
            all.add(cell + 8);
        }
        return all;
    }

    static Map<Integer, Integer> distances(TreeSet<Integer> stands, int from) {
        Map<Integer, Integer> far = new HashMap<>();
        if (!stands.contains(from)) {
            return far;
        }
        ArrayDeque<Integer> open = new ArrayDeque<>();
        far.put(from, 0);
        open.add(from);
        while (!open.isEmpty()) {
            int at = open.remove();
            for (int next : beside(at)) {
                if (stands.contains(next) && !far.containsKey(next)) {
                    far.put(next, far.get(at) + 1);
                    open.add(next);
                }
            }
        }
        return far;
    }

    /** The cells of a part, or null where it CAN'T go. */
    static List<Integer> place(TreeSet<Integer> stands, int part, int at) {
        List<Integer> cells = new ArrayList<>();
        boolean holds = false;
        for (int[] step : SHAPES[part]) {
            int column = at % 8 + step[0];
            int row = at / 8 + step[1];
            if (column > 7 || row > 7 || stands.contains(8 * row + column)) {
                return null;
            }
            cells.add(8 * row + column);
            for (int next : beside(8 * row + column)) {
                holds |= stands.contains(next);
            }
        }
        return holds ? cells : null;
    }

    static long bits(Iterable<Integer> cells) {
        long all = 0;
        for (int c : cells) {
            all |= 1L << c;
        }
        return all;
    }

    // ---- the object

    State now = new State();
    State image;
    List<Rule> texts = new ArrayList<>();
    StringBuilder tape = new StringBuilder();
    int[] sorts = {-1, -1, -1, -1};
    List<List<Integer>> sheets = new ArrayList<>();

    Model() {
        for (int c = 0; c < 8; c++) {
            now.house.add(c);
        }
        Rule first = new Rule();
        first.holds = m -> m.get("firm");
        first.fades = m -> 2;
        first.costs = m -> m.get("parts");
        texts.add(first);
        for (int i = 0; i < 4; i++) {
            sheets.add(null);
        }
    }

    boolean none(int one) {
        return one < 0 || one >= now.regrets.size();
    }

    static boolean out(int v, int most) {
        return v < 0 || v > most;
    }

    int set(int what, int of, int v) {
        if (what == 0) {
            if (out(v, 999)) {
                return BAD;
            }
            int was = now.year;
            now.year = v;
            return was;
        }
        if (what == 1 || what == 2) {
            if (none(of) || out(v, what == 1 ? 9 : 99)) {
                return BAD;
            }
            Regret r = now.regrets.get(of);
            int was = what == 1 ? r.number : r.firm;
            if (what == 1) {
                r.number = v;
            } else {
                r.firm = v;
            }
            return was;
        }
        if (what != 3 || out(of, 63) || out(v, 1) || now.up().contains(of)) {
            return BAD;
        }
        int was = now.house.contains(of) ? 1 : 0;
        now.house.remove(of);
        if (v == 1) {
            now.house.add(of);
        }
        now.settle();
        return was;
    }

    int regret(int kind, int number, int firm) {
        if (out(kind, 5) || out(number, 9) || out(firm, 99)) {
            return BAD;
        }
        if (now.regrets.size() == 5) {
            return FULL;
        }
        Regret r = new Regret();
        r.kind = kind;
        r.number = number;
        r.firm = firm;
        now.regrets.add(r);
        return now.regrets.size() - 1;
    }

    int told(int of, int what) {
        if (what == 0) {
            return now.year;
        }
        if (what == 8) {
            if (out(of, 63)) {
                return BAD;
            }
            for (int i = 0; i < now.regrets.size(); i++) {
                if (now.regrets.get(i).up.contains(of)) {
                    return i;
                }
            }
            return now.house.contains(of) ? 9 : NONE;
        }
        if (out(what, 8) || none(of)) {
            return BAD;
        }
        Regret r = now.regrets.get(of);
        int[] answers = {0, r.number, r.firm, r.kind, now.holds(r, r.kind), now.fades(r, r.kind),
            now.costs(r, r.kind), r.up.size()};
        return answers[what];
    }

    long wall(int what) {
        if (what == -1) {
            return bits(now.house);
        }
        if (what == -2) {
            return bits(now.stands());
        }
        return none(what) ? NO : bits(now.regrets.get(what).up);
    }

    int feed(int letter) {
        if (out(letter, 255)) {
            return BAD;
        }
        if (tape.length() == 160) {
            return FULL;
        }
        tape.append((char) letter);
        return tape.length();
    }

    int text() {
        if (texts.size() == 6) {
            return FULL;
        }
        String all = tape.toString();
        tape.setLength(0);
        ModelText reader = new ModelText(all);
        int fault = reader.read();
        if (fault >= 0) {
            return -100 - fault;
        }
        Rule rule = new Rule();
        rule.holds = reader.made.get(0);
        rule.fades = reader.made.get(1);
        rule.costs = reader.made.get(2);
        texts.add(rule);
        return texts.size() - 1;
    }

    int force(int text) {
        if (out(text, texts.size() - 1)) {
            return BAD;
        }
        int was = now.rule;
        now.rule = text;
        return was;
    }

    int raise(int one, int part, int at) {
        if (none(one) || out(part, 5) || out(at, 63)) {
            return BAD;
        }
        List<Integer> cells = place(now.stands(), part, at);
        if (cells == null) {
            return STATE;
        }
        now.regrets.get(one).up.addAll(cells);
        return now.regrets.get(one).up.size();
    }

    int fell(int cell) {
        if (out(cell, 63)) {
            return BAD;
        }
        int before = now.up().size();
        if (!now.up().contains(cell)) {
            return STATE;
        }
        now.falls(cell);
        return before - now.up().size();
    }

    long room(int part) {
        if (out(part, 5)) {
            return NO;
        }
        TreeSet<Integer> where = new TreeSet<>();
        for (int at = 0; at < 64; at++) {
            if (place(now.stands(), part, at) != null) {
                where.add(at);
            }
        }
        return bits(where);
    }

    int year() {
        if (now.year == 999) {
            return STATE;
        }
        int before = now.up().size();
        now.pass();
        return before - now.up().size();
    }

    int run(int one, int n, int what) {
        if (none(one) || out(n, 40) || out(what, 3)) {
            return BAD;
        }
        State s = now.behind(n);
        int[] answers = {s.up().size(), s.regrets.get(one).up.size(), s.paid, s.regrets.get(one).firm};
        return answers[what];
    }

    long later(int n) {
        return out(n, 40) ? NO : bits(now.behind(n).stands());
    }

    int walk(int from, int to) {
        if (out(from, 63) || out(to, 63)) {
            return BAD;
        }
        return distances(now.stands(), from).getOrDefault(to, NONE);
    }

    long round(int from, int n) {
        if (out(from, 63) || out(n, 63)) {
            return NO;
        }
        TreeSet<Integer> all = new TreeSet<>();
        distances(now.stands(), from).forEach((cell, far) -> {
            if (far <= n) {
                all.add(cell);
            }
        });
        return bits(all);
    }

    int reach(int cell) {
        if (out(cell, 63)) {
            return BAD;
        }
        for (int parts = 0; parts <= 2; parts++) {
            if (reached(now.stands(), cell, parts)) {
                return parts;
            }
        }
        return NONE;
    }

    private static boolean reached(TreeSet<Integer> stands, int cell, int parts) {
        if (stands.contains(cell)) {
            return true;
        }
        if (parts == 0) {
            return false;
        }
        for (int part = 0; part < 6; part++) {
            for (int at = 0; at < 64; at++) {
                List<Integer> cells = place(stands, part, at);
                if (cells != null && (parts > 1 || cells.contains(cell))) {
                    TreeSet<Integer> then = new TreeSet<>(stands);
                    then.addAll(cells);
                    if (reached(then, cell, parts - 1)) {
                        return true;
                    }
                }
            }
        }
        return false;
    }

    int key(int what) {
        if (out(what, 1)) {
            return BAD;
        }
        int best = NONE;
        int most = NONE;
        for (int cell : now.up()) {
            State s = now.copy();
            s.falls(cell);
            int others = now.up().size() - s.up().size() - 1;
            if (others > most) {
                most = others;
                best = cell;
            }
        }
        return what == 0 ? best : most;
    }

    int add(int one, int n, int what) {
        if (none(one) || n < 1 || n > 20 || out(what, 1)) {
            return BAD;
        }
        int most = now.behind(n).up().size();
        int best = NONE;
        for (int part = 0; part < 6; part++) {
            for (int at = 0; at < 64; at++) {
                List<Integer> cells = place(now.stands(), part, at);
                if (cells != null) {
                    State s = now.copy();
                    s.regrets.get(one).up.addAll(cells);
                    int then = s.behind(n).up().size();
                    if (then > most) {
                        most = then;
                        best = 100 * part + at;
                    }
                }
            }
        }
        return what == 0 ? best : most;
    }

    private static long line(int above, int below, int part) {
        int a = above;
        int b = below;
        while (b != 0) {
            int rest = a % b;
            a = b;
            b = rest;
        }
        return part == 0 ? above / a : below / a;
    }

    long share(int one, int part) {
        if (none(one) || out(part, 1) || now.stands().isEmpty()) {
            return NO;
        }
        return line(now.regrets.get(one).up.size(), now.stands().size(), part);
    }

    private static List<Integer> counts(State from, int one, int n) {
        List<Integer> all = new ArrayList<>();
        for (int i = 1; i <= n; i++) {
            all.add(from.behind(i).regrets.get(one).up.size());
        }
        return all;
    }

    int tells(int sheet, int one, int what) {
        if (out(sheet, 3) || none(one) || out(what, 6)) {
            return BAD;
        }
        List<Integer> row = sheets.get(sheet);
        if (row == null) {
            return -11;
        }
        if (row.size() > 20) {
            return BAD;
        }
        int n = row.size();
        if (what == 0) {
            List<Integer> counts = counts(now, one, n);
            for (int i = 0; i < n; i++) {
                if (!counts.get(i).equals(row.get(i))) {
                    return i;
                }
            }
            return NONE;
        }
        int[] ends = {0, 6, 10, 100, 100, texts.size(), now.regrets.size()};
        List<Integer> so = new ArrayList<>();
        for (int v = 0; v < ends[what]; v++) {
            State s = now.copy();
            Regret r = s.regrets.get(one);
            switch (what) {
                case 1: r.kind = v; break;
                case 2: r.number = v; break;
                case 3: case 4: r.firm = v; break;
                case 5: s.rule = v; break;
                default: break;
            }
            if (counts(s, what == 6 ? v : one, n).equals(row)) {
                so.add(v);
            }
        }
        if (what == 3) {
            return so.size();
        }
        if (what == 4) {
            return so.isEmpty() ? NONE : so.get(0);
        }
        return (int) bits(so);
    }

    int film(int sheet, int one, int n) {
        if (out(sheet, 3) || none(one) || out(n, 20)) {
            return BAD;
        }
        sorts[sheet] = 0;
        sheets.set(sheet, counts(now, one, n));
        return n;
    }

    int drawn(int seed, int n) {
        if (out(n, 40)) {
            return BAD;
        }
        State s = now.copy();
        int z = seed;
        for (int i = 0; i < n; i++) {
            z = z * 1103515245 + 12345;
            int cell = (z >>> 9) % 64;
            if (s.up().contains(cell)) {
                s.falls(cell);
            }
            s.pass();
        }
        return s.up().size();
    }

    long chance(int seed, int m, int k, int part) {
        if (m < 1 || m > 20 || out(k, 64) || out(part, 1)) {
            return NO;
        }
        int those = 0;
        for (int i = 0; i < m; i++) {
            those += drawn(seed + i, 10) >= k ? 1 : 0;
        }
        return line(those, m, part);
    }

    int image() {
        image = now.copy();
        return now.regrets.size();
    }

    int back() {
        if (image == null) {
            return STATE;
        }
        now = image.copy();
        return now.regrets.size();
    }

    int count(int what) {
        if (out(what, 5)) {
            return BAD;
        }
        int[] answers = {now.regrets.size(), now.up().size(), now.paid, texts.size(), tape.length(), now.rule};
        return answers[what];
    }

    int sheet(int sheet, int sort, int n) {
        if (out(sheet, 3) || sort < -1 || sort > 2) {
            return BAD;
        }
        if (sort >= 0 && n > 40) {
            return BAD;
        }
        if (sort >= 0 && n < 0) {
            return -14;
        }
        sorts[sheet] = sort;
        List<Integer> row = new ArrayList<>();
        for (int i = 0; sort >= 0 && i < n; i++) {
            row.add(0);
        }
        sheets.set(sheet, sort < 0 ? null : row);
        return 1;
    }

    int cell(int sheet, int i, int v) {
        if (out(sheet, 3)) {
            return BAD;
        }
        List<Integer> row = sheets.get(sheet);
        if (row == null) {
            return -11;
        }
        if (out(i, row.size() - 1)) {
            return -12;
        }
        int[] cut = {(byte) v, (short) v, v};
        row.set(i, cut[sorts[sheet]]);
        return 1;
    }

    int copy(int sheet, int i, int other, int j, int n) {
        if (out(sheet, 3) || out(other, 3)) {
            return BAD;
        }
        if (sheets.get(sheet) == null || sheets.get(other) == null) {
            return -11;
        }
        if (sorts[sheet] != sorts[other]) {
            return -13;
        }
        if (i < 0 || j < 0 || n < 0 || (long) i + n > sheets.get(sheet).size()
            || (long) j + n > sheets.get(other).size()) {
            return -12;
        }
        List<Integer> were = new ArrayList<>(sheets.get(sheet));
        for (int k = 0; k < n; k++) {
            sheets.get(other).set(j + k, were.get(i + k));
        }
        return n;
    }

    int bag(int sheet, int sort, int from, int n) {
        if (out(sheet, 3) || out(sort, 2) || out(n, 5)) {
            return BAD;
        }
        List<Integer> row = sheets.get(sheet);
        if (row != null && sorts[sheet] != sort) {
            return -13;
        }
        if (row == null) {
            return -11;
        }
        int came = 0;
        for (long k = 0; k < n; k++) {
            int[] three = new int[3];
            for (int t = 0; t < 3; t++) {
                long at = from + 3 * k + t;
                if (at < 0 || at >= row.size()) {
                    return -12;
                }
                three[t] = row.get((int) at);
            }
            came += regret(three[0], three[1], three[2]) >= 0 ? 1 : 0;
        }
        return came;
    }

    int taken(int one, int k) {
        if (out(k, 5)) {
            return BAD;
        }
        if (none(one)) {
            return -11;
        }
        for (int kind = now.regrets.get(one).kind; kind >= 0; kind = ABOVE[kind]) {
            if (kind == k) {
                return now.regrets.get(one).number;
            }
        }
        return -13;
    }
}
