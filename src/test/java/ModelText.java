import java.util.ArrayList;
import java.util.List;
import java.util.Map;
import java.util.Set;
import java.util.function.ToIntFunction;

/** The document's texts once more: all tokens first, then a reader that throws at the fault. */
final class ModelText {
    private static final Set<String> NAMES = Set.of("firm", "number", "year", "parts", "high", "paid");

    private static final class Fault extends Exception {
        private static final long serialVersionUID = 1L;
        final int place;

        Fault(int place) {
            this.place = place;
        }
    }

    final List<ToIntFunction<Map<String, Integer>>> made = new ArrayList<>();
    private final List<String> tokens = new ArrayList<>();
    private final List<Integer> places = new ArrayList<>();
    private int at;

    ModelText(String text) {
        int i = 0;
        while (i < text.length()) {
            char c = text.charAt(i);
            int end = i + 1;
            if (c == 32 || c == 10) {
                i++;
                continue;
            }
            if (c >= 'a' && c <= 'z') {
                while (end < text.length() && text.charAt(end) >= 'a' && text.charAt(end) <= 'z') {
                    end++;
                }
            } else if (c >= '0' && c <= '9') {
                while (end < text.length() && text.charAt(end) >= '0' && text.charAt(end) <= '9') {
                    end++;
                }
            }
            tokens.add(text.substring(i, end));
            places.add(i);
            i = end;
        }
        tokens.add("");
        places.add(text.length());
    }

    /** The fault's place, or -1. */
    int read() {
        try {
            for (String key : List.of("holds", "fades", "costs")) {
                want(key);
                made.add(either(0));
                want(";");
            }
            want("");
            return -1;
        } catch (Fault fault) {
            return fault.place;
        }
    }

    private String token() {
        return tokens.get(at);
    }

    private Fault fault() {
        return new Fault(places.get(at));
    }

    private void want(String token) throws Fault {
        if (!token().equals(token)) {
            throw fault();
        }
        if (!token.isEmpty()) {
            at++;
        }
    }

    private boolean comes(String token) {
        if (token().equals(token)) {
            at++;
            return true;
        }
        return false;
    }

    private ToIntFunction<Map<String, Integer>> either(int open) throws Fault {
        ToIntFunction<Map<String, Integer>> all = both(open);
        while (comes("or")) {
            ToIntFunction<Map<String, Integer>> left = all;
            ToIntFunction<Map<String, Integer>> right = both(open);
            all = m -> left.applyAsInt(m) != 0 | right.applyAsInt(m) != 0 ? 1 : 0;
        }
        return all;
    }

    private ToIntFunction<Map<String, Integer>> both(int open) throws Fault {
        ToIntFunction<Map<String, Integer>> all = not(open);
        while (comes("and")) {
            ToIntFunction<Map<String, Integer>> left = all;
            ToIntFunction<Map<String, Integer>> right = not(open);
            all = m -> left.applyAsInt(m) != 0 & right.applyAsInt(m) != 0 ? 1 : 0;
        }
        return all;
    }

    private ToIntFunction<Map<String, Integer>> not(int open) throws Fault {
        if (token().equals("not")) {
            deeper(open);
            ToIntFunction<Map<String, Integer>> of = not(open + 1);
            return m -> of.applyAsInt(m) == 0 ? 1 : 0;
        }
        ToIntFunction<Map<String, Integer>> left = sum(open);
        if (comes("<")) {
            ToIntFunction<Map<String, Integer>> right = sum(open);
            return m -> left.applyAsInt(m) < right.applyAsInt(m) ? 1 : 0;
        }
        if (comes("=")) {
            ToIntFunction<Map<String, Integer>> right = sum(open);
            return m -> left.applyAsInt(m) == right.applyAsInt(m) ? 1 : 0;
        }
        return left;
    }

    private ToIntFunction<Map<String, Integer>> sum(int open) throws Fault {
        ToIntFunction<Map<String, Integer>> all = term(open);
        while (token().equals("+") || token().equals("-")) {
            int sign = token().equals("+") ? 1 : -1;
            at++;
            ToIntFunction<Map<String, Integer>> left = all;
            ToIntFunction<Map<String, Integer>> right = term(open);
            all = m -> left.applyAsInt(m) + sign * right.applyAsInt(m);
        }
        return all;
    }

    private ToIntFunction<Map<String, Integer>> term(int open) throws Fault {
        ToIntFunction<Map<String, Integer>> all = one(open);
        while (comes("*")) {
            ToIntFunction<Map<String, Integer>> left = all;
            ToIntFunction<Map<String, Integer>> right = one(open);
            all = m -> left.applyAsInt(m) * right.applyAsInt(m);
        }
        return all;
    }

    private ToIntFunction<Map<String, Integer>> one(int open) throws Fault {
        String token = token();
        if (token.equals("-")) {
            deeper(open);
            ToIntFunction<Map<String, Integer>> of = one(open + 1);
            return m -> -of.applyAsInt(m);
        }
        if (token.equals("(")) {
            deeper(open);
            ToIntFunction<Map<String, Integer>> of = either(open + 1);
            want(")");
            return of;
        }
        if (NAMES.contains(token)) {
            at++;
            return m -> m.get(token);
        }
        if (!token.isEmpty() && Character.isDigit(token.charAt(0)) && token.charAt(0) < 128
            && token.length() <= 4) {
            at++;
            int value = Integer.parseInt(token);
            return m -> value;
        }
        throw fault();
    }

    private void deeper(int open) throws Fault {
        if (open == 5) {
            throw fault();
        }
        at++;
    }
}
