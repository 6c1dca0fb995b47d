import java.util.ArrayList;
import java.util.Arrays;
import java.util.Comparator;
import java.util.HashMap;
import java.util.List;
import java.util.Map;
import java.util.function.ToIntFunction;

/**
 * The document once more, in the plainest way that the whole Java library allows and by other ways than
 * the class: texts by a table of states, RULES by splitting their tokens, searches by listing all rows
 * and sorting them. RandomTest holds the class against it.
 */
final class Model {
    /** A THING, a WANT, a SALE or a CODE is its clause's numbers. */
    static final class Shop {
        int carriage;
        int free;
        boolean again;
        final List<int[]> things = new ArrayList<>();
        final List<int[]> wants = new ArrayList<>();
        final List<int[]> sales = new ArrayList<>();
        final List<int[]> codes = new ArrayList<>();
        final List<int[]> alone = new ArrayList<>();
    }

    static final class State {
        List<Integer> basket = new ArrayList<>();
        List<Integer> laid = new ArrayList<>();
        List<Integer> used = new ArrayList<>();
        Map<Integer, Integer> stock = new HashMap<>();
        Map<Integer, Integer> had = new HashMap<>();
        Map<Integer, Integer> looks = new HashMap<>();
        List<Integer> last = new ArrayList<>();
        Map<Integer, Integer> lastDear = new HashMap<>();
        List<Integer> lastCodes = new ArrayList<>();
        int lastPaid;
        int paid;
        int day;

        State copy() {
            State s = new State();
            s.basket = new ArrayList<>(basket);
            s.laid = new ArrayList<>(laid);
            s.used = new ArrayList<>(used);
            s.stock = new HashMap<>(stock);
            s.had = new HashMap<>(had);
            s.looks = new HashMap<>(looks);
            s.last = new ArrayList<>(last);
            s.lastDear = new HashMap<>(lastDear);
            s.lastCodes = new ArrayList<>(lastCodes);
            s.lastPaid = lastPaid;
            s.paid = paid;
            s.day = day;
            return s;
        }
    }

    record Token(String text, int place) { }

    record Image(Shop shop, State state, int force, long x, List<int[]> prices) { }

    private final List<Integer> tape = new ArrayList<>();
    private final List<List<List<Token>>> rules = new ArrayList<>();
    private int force = -1;
    private long x = 0;
    private Shop shop = null;
    private State s = new State();
    private List<int[]> prices = new ArrayList<>();
    private final List<State> past = new ArrayList<>();
    private final Map<Integer, Image> images = new HashMap<>();

    // ---- texts

    private static final class Fault extends RuntimeException {
        private static final long serialVersionUID = 1L;
        final int number;

        Fault(int place, int kind) {
            number = 1 + 8 * place + kind;
        }
    }

    private List<Token> tokens() {
        StringBuilder b = new StringBuilder();
        for (int t : tape) {
            b.append((char) t);
        }
        List<Token> all = new ArrayList<>();
        java.util.regex.Matcher m = java.util.regex.Pattern.compile("[0-9]+|[a-z]+|<=|>=|[^ ]", java.util.regex.Pattern.DOTALL).matcher(b);
        while (m.find()) {
            all.add(new Token(m.group(), m.start()));
        }
        all.add(new Token("", tape.size()));
        return all;
    }

    private static boolean number(Token t) {
        return t.text.matches("[0-9]+");
    }

    private static int inRange(Token t, int least, int most) {
        if (!number(t)) {
            throw new Fault(t.place, 0);
        }
        if (t.text.length() > 5 || Integer.parseInt(t.text) < least || Integer.parseInt(t.text) > most) {
            throw new Fault(t.place, 1);
        }
        return Integer.parseInt(t.text);
    }

    private static final Map<String, int[][]> CLAUSES = Map.of(
        "shop", new int[][] {{0, 999}, {0, 9999}}, "thing", new int[][] {{1, 5000}, {0, 5000}, {0, 9}},
        "want", new int[][] {{0, 99}, {0, 30}}, "sale", new int[][] {{0, 99}, {0, 99}, {1, 90}},
        "percent", new int[][] {{1, 90}, {0, 9999}}, "off", new int[][] {{1, 2000}, {0, 9999}},
        "post", new int[][] {{0, 9999}}, "alone", new int[][] {{0, 99}, {0, 99}}, "again", new int[][] {});

    private Shop readShop() {
        Shop to = new Shop();
        List<Token> all = tokens();
        int at = 0;
        for (int clause = 0;; clause++) {
            Token word = all.get(at++);
            int[][] ranges = CLAUSES.get(word.text);
            if (ranges == null) {
                throw new Fault(word.place, 0);
            }
            boolean code = "percent off post".contains(word.text);
            boolean tooMany = clause == 40 || clause == 0 && !word.text.equals("shop") || clause > 0 && word.text.equals("shop")
                || word.text.equals("thing") && to.things.size() == 8 || word.text.equals("want") && to.wants.size() == 6
                || word.text.equals("sale") && to.sales.size() == 4 || code && to.codes.size() == 5 || word.text.equals("again") && to.again;
            if (tooMany) {
                throw new Fault(word.place, 4);
            }
            int[] numbers = new int[ranges.length];
            for (int i = 0; i < ranges.length; i++) {
                Token t = all.get(at++);
                numbers[i] = inRange(t, ranges[i][0], ranges[i][1]);
                if (word.text.equals("want") && i == 0 && numbers[0] >= to.things.size()
                    || word.text.equals("sale") && i == 1 && numbers[1] < numbers[0]
                    || word.text.equals("alone") && (numbers[i] >= to.codes.size() || i == 1 && numbers[0] == numbers[1])) {
                    throw new Fault(t.place, 1);
                }
            }
            switch (word.text) {
                case "shop" -> { to.carriage = numbers[0]; to.free = numbers[1]; }
                case "thing" -> to.things.add(numbers);
                case "want" -> to.wants.add(numbers);
                case "sale" -> to.sales.add(numbers);
                case "percent" -> to.codes.add(new int[] {0, numbers[0], numbers[1]});
                case "off" -> to.codes.add(new int[] {1, numbers[0], numbers[1]});
                case "post" -> to.codes.add(new int[] {2, 0, numbers[0]});
                case "alone" -> to.alone.add(numbers);
                default -> to.again = true;
            }
            Token between = all.get(at++);
            if (between.text.isEmpty()) {
                return to;
            }
            if (!between.text.equals(";")) {
                throw new Fault(between.place, 0);
            }
        }
    }

    private static final List<String> WORDS = List.of("thing", "told", "sale", "day", "looks", "stock", "bought", "worth");
    private static final List<String> SIGNS = List.of("<", "<=", "=", ">=", ">");
    private static final List<String> REACH = List.of("+", "-", "*", "/", "%");

    /** A table of states: what stands open, and what may come. */
    private List<List<Token>> readRule() {
        List<List<Token>> clauses = new ArrayList<>();
        List<String> open = new ArrayList<>();
        String state = "clause";
        int counted = 0;
        for (Token t : tokens()) {
            boolean value = number(t) || WORDS.contains(t.text);
            switch (state) {
                case "clause" -> {
                    if (!t.text.equals("price")) {
                        throw new Fault(t.place, 0);
                    }
                    if (clauses.size() == 12) {
                        throw new Fault(t.place, 4);
                    }
                    clauses.add(new ArrayList<>());
                    state = "price";
                    continue;
                }
                case "price", "left", "right", "fact" -> {
                    if (state.equals("fact") && (t.text.equals("not") || t.text.equals("["))) {
                        if (open.size() == 10) {
                            throw new Fault(t.place, 2);
                        }
                        open.add(t.text);
                        break;
                    }
                    if (!value) {
                        throw new Fault(t.place, 0);
                    }
                    if (number(t) && t.text.length() > 5) {
                        throw new Fault(t.place, 1);
                    }
                    if (++counted > 60) {
                        throw new Fault(t.place, 3);
                    }
                    state = state.equals("fact") ? "left?" : state + "?";
                }
                case "price?" -> {
                    if (REACH.contains(t.text)) {
                        state = "price";
                    } else if (t.text.equals("if")) {
                        state = "fact";
                    } else if (t.text.equals(";")) {
                        state = "clause";
                        continue;
                    } else if (!t.text.isEmpty()) {
                        throw new Fault(t.place, 0);
                    }
                }
                case "left?" -> {
                    if (REACH.contains(t.text)) {
                        state = "left";
                    } else if (!SIGNS.contains(t.text)) {
                        throw new Fault(t.place, 0);
                    } else if (++counted > 60) {
                        throw new Fault(t.place, 3);
                    } else {
                        state = "right";
                    }
                }
                default -> {
                    if (state.equals("right?") && REACH.contains(t.text)) {
                        state = "right";
                        break;
                    }
                    while (!open.isEmpty() && open.get(open.size() - 1).equals("not")) {
                        open.remove(open.size() - 1);
                    }
                    if (t.text.equals("and") || t.text.equals("or")) {
                        state = "fact";
                    } else if (t.text.equals("]") && !open.isEmpty()) {
                        open.remove(open.size() - 1);
                        state = "closed";
                    } else if (t.text.equals(";") && open.isEmpty()) {
                        state = "clause";
                        continue;
                    } else if (!t.text.isEmpty() || !open.isEmpty()) {
                        throw new Fault(t.place, 0);
                    }
                }
            }
            if (!t.text.isEmpty()) {
                clauses.get(clauses.size() - 1).add(t);
            }
        }
        return clauses;
    }

    // ---- rules

    private static int split(List<Token> t, List<String> at, boolean fromRight) {
        int depth = 0;
        int found = -1;
        for (int i = 0; i < t.size(); i++) {
            depth += t.get(i).text.equals("[") ? 1 : t.get(i).text.equals("]") ? -1 : 0;
            if (depth == 0 && at.contains(t.get(i).text) && (found < 0 || fromRight)) {
                found = i;
            }
        }
        return found;
    }

    private static boolean holds(List<Token> t, Map<String, Long> words) {
        int or = split(t, List.of("or"), false);
        if (or >= 0) {
            return holds(t.subList(0, or), words) || holds(t.subList(or + 1, t.size()), words);
        }
        int and = split(t, List.of("and"), false);
        if (and >= 0) {
            return holds(t.subList(0, and), words) && holds(t.subList(and + 1, t.size()), words);
        }
        if (t.get(0).text.equals("not")) {
            return !holds(t.subList(1, t.size()), words);
        }
        if (t.get(0).text.equals("[")) {
            return holds(t.subList(1, t.size() - 1), words);
        }
        int sign = split(t, SIGNS, false);
        int c = Long.compare(sum(t.subList(0, sign), words), sum(t.subList(sign + 1, t.size()), words));
        return switch (t.get(sign).text) {
            case "<" -> c < 0;
            case "<=" -> c <= 0;
            case "=" -> c == 0;
            case ">=" -> c >= 0;
            default -> c > 0;
        };
    }

    private static long sum(List<Token> t, Map<String, Long> words) {
        int at = split(t, List.of("+", "-"), true);
        if (at < 0) {
            at = split(t, List.of("*", "/", "%"), true);
        }
        if (at < 0) {
            String v = t.get(0).text;
            return words.containsKey(v) ? words.get(v) : Long.parseLong(v);
        }
        long a = sum(t.subList(0, at), words);
        long b = sum(t.subList(at + 1, t.size()), words);
        return switch (t.get(at).text) {
            case "+" -> a + b;
            case "-" -> a - b;
            case "*" -> a * b;
            case "/" -> b == 0 ? 0 : a / b;
            default -> b == 0 ? 0 : a - a / b * b;
        };
    }

    private int saleOn(int day) {
        int percent = 0;
        for (int[] sale : shop.sales) {
            percent = sale[0] <= day && day <= sale[1] ? sale[2] : percent;
        }
        return percent;
    }

    private int price(State s, int rule, int thing, int day, int looks) {
        int told = shop.things.get(thing)[0];
        if (rule < 0) {
            return Math.max(1, told - (int) Math.floor(told * saleOn(day) / 100.0 + 1e-9));
        }
        Map<String, Long> words = new HashMap<>();
        long[] values = {thing, told, saleOn(day), day, looks, s.stock.get(thing), s.had.get(thing), shop.things.get(thing)[1]};
        for (int i = 0; i < 8; i++) {
            words.put(WORDS.get(i), values[i]);
        }
        long got = 0;
        for (List<Token> clause : rules.get(rule)) {
            int test = split(clause, List.of("if"), false);
            if (test < 0 || holds(clause.subList(test + 1, clause.size()), words)) {
                got = sum(test < 0 ? clause : clause.subList(0, test), words);
                break;
            }
        }
        return got < 1 ? 1 : got > 9999 ? 9999 : (int) got;
    }

    private int priceNow(State s, int thing, int day) {
        return price(s, force, thing, day, s.looks.get(thing));
    }

    // ---- cost

    /** COST, and CARRIAGE in it, of things at prices, and a sum from elsewhere. */
    private int[] bill(List<Integer> dear, List<Integer> codes, int free) {
        if (dear.isEmpty()) {
            return new int[] {0, 0};
        }
        int sum = dear.stream().mapToInt(Integer::intValue).sum();
        boolean carried = true;
        for (int c : codes) {
            int[] code = shop.codes.get(c);
            if (sum >= code[2]) {
                if (code[0] == 0) {
                    sum = sum - sum * code[1] / 100;
                } else if (code[0] == 1) {
                    sum = sum < code[1] ? 0 : sum - code[1];
                } else {
                    carried = false;
                }
            }
        }
        int carriage = carried && sum < free ? shop.carriage : 0;
        return new int[] {sum + carriage, carriage};
    }

    private List<Integer> dearOf(List<Integer> things, int day) {
        List<Integer> all = new ArrayList<>();
        for (int t : things) {
            all.add(priceNow(s, t, day));
        }
        return all;
    }

    private int costOf(List<Integer> things, int day) {
        return bill(dearOf(things, day), List.of(), shop.free)[0];
    }

    private boolean hasThing(int t) {
        return shop != null && t >= 0 && t < shop.things.size();
    }

    private boolean hasCode(int c) {
        return shop != null && c >= 0 && c < shop.codes.size();
    }

    private boolean alone(int a, int b) {
        return shop.alone.stream().anyMatch(p -> p[0] == a && p[1] == b || p[0] == b && p[1] == a);
    }

    private static int countOf(List<Integer> list, int t) {
        return (int) list.stream().filter(v -> v == t).count();
    }

    private static int worth(Shop shop, List<Integer> things) {
        return things.stream().mapToInt(t -> shop.things.get(t)[1]).sum();
    }

    private void act() {
        past.add(s.copy());
        if (past.size() > 20) {
            past.remove(0);
        }
    }

    // ---- the face

    int feed(int a, int b, int c, int d, int e) {
        if (tape.size() > 380) {
            return -1;
        }
        for (int v : new int[] {a, b, c, d, e}) {
            for (int i = 3; i >= 0; i--) {
                tape.add(v >>> 8 * i & 255);
            }
        }
        return tape.size();
    }

    int end(int n) {
        if (n < 0 || n > tape.size()) {
            return -1;
        }
        tape.subList(n, tape.size()).clear();
        return n;
    }

    int shop() {
        try {
            shop = readShop();
        } catch (Fault f) {
            return -2 - f.number;
        } finally {
            tape.clear();
        }
        s = new State();
        for (int t = 0; t < shop.things.size(); t++) {
            s.stock.put(t, shop.things.get(t)[2]);
            s.had.put(t, 0);
            s.looks.put(t, 0);
        }
        prices.clear();
        past.clear();
        return shop.things.size();
    }

    int rule() {
        if (rules.size() == 6) {
            return -1;
        }
        try {
            rules.add(readRule());
        } catch (Fault f) {
            return -2 - f.number;
        } finally {
            tape.clear();
        }
        return rules.size() - 1;
    }

    int force(int rule) {
        if (rule < -1 || rule >= rules.size()) {
            return -2;
        }
        int was = force;
        force = rule;
        return was;
    }

    int thing(int t, int what) {
        if (!hasThing(t) || what < 0 || what > 7) {
            return -1;
        }
        return List.of(priceNow(s, t, s.day), s.stock.get(t), countOf(s.basket, t), s.had.get(t), s.looks.get(t),
            countOf(s.last, t), shop.things.get(t)[0], shop.things.get(t)[1]).get(what);
    }

    int code(int c, int what) {
        if (!hasCode(c) || what < 0 || what > 5) {
            return -2;
        }
        int bits = 0;
        for (int o = 0; o < shop.codes.size(); o++) {
            bits += alone(c, o) ? 1 << o : 0;
        }
        int[] code = shop.codes.get(c);
        return List.of(code[0], code[1], code[2], s.laid.indexOf(c), s.used.contains(c) ? 1 : 0, bits).get(what);
    }

    int want(int w, int what) {
        return shop == null || w < 0 || w >= shop.wants.size() || what < 0 || what > 1 ? -1 : shop.wants.get(w)[what];
    }

    int dear(int t, int day, int looks) {
        return !hasThing(t) || day < 0 || day > 999 || looks < 0 || looks > 99 ? -1 : price(s, force, t, day, looks);
    }

    int cost(int what) {
        return shop == null || what < 0 || what > 1 ? -1 : bill(dearOf(s.basket, s.day), s.laid, shop.free)[what];
    }

    private boolean canPut(State s, List<Integer> basket, int t) {
        return countOf(basket, t) < s.stock.get(t) && basket.size() < 12;
    }

    int put(int t) {
        if (!hasThing(t) || !canPut(s, s.basket, t)) {
            return -1;
        }
        act();
        s.basket.add(t);
        return countOf(s.basket, t);
    }

    int drop(int t) {
        if (!hasThing(t) || !s.basket.contains(t)) {
            return -1;
        }
        act();
        s.basket.remove(Integer.valueOf(t));
        return countOf(s.basket, t);
    }

    int lay(int c) {
        if (!hasCode(c) || s.used.contains(c) || s.laid.contains(c) || s.laid.stream().anyMatch(o -> alone(c, o))) {
            return -1;
        }
        act();
        s.laid.add(c);
        return s.laid.size();
    }

    int lift(int c) {
        if (!hasCode(c) || !s.laid.contains(c)) {
            return -1;
        }
        act();
        s.laid.remove(Integer.valueOf(c));
        return s.laid.size();
    }

    int look(int t) {
        if (!hasThing(t)) {
            return -1;
        }
        act();
        s.looks.merge(t, 1, (a, b) -> Math.min(99, a + b));
        return priceNow(s, t, s.day);
    }

    int buy() {
        if (shop == null || s.basket.isEmpty()) {
            return -1;
        }
        act();
        int paid = cost(0);
        s.lastDear = new HashMap<>();
        for (int t : s.basket) {
            s.lastDear.put(t, priceNow(s, t, s.day));
        }
        s.last = new ArrayList<>(s.basket);
        s.lastCodes = new ArrayList<>(s.laid);
        s.lastPaid = paid;
        s.paid += paid;
        s.used.addAll(s.laid);
        s.laid.clear();
        take(s);
        return paid;
    }

    private static void take(State s) {
        for (int t : s.basket) {
            s.stock.merge(t, -1, Integer::sum);
            s.had.merge(t, 1, Integer::sum);
        }
        s.basket.clear();
    }

    private int sendBack(State s, int t) {
        s.last.remove(Integer.valueOf(t));
        s.had.merge(t, -1, Integer::sum);
        s.stock.merge(t, 1, (a, b) -> Math.min(9, a + b));
        int back = s.lastDear.get(t);
        if (shop.again) {
            List<Integer> dear = new ArrayList<>();
            for (int l : s.last) {
                dear.add(s.lastDear.get(l));
            }
            back = Math.max(0, s.lastPaid - bill(dear, s.lastCodes, shop.free)[0]);
        }
        s.lastPaid -= back;
        s.paid -= back;
        return back;
    }

    int sendBack(int t) {
        if (!hasThing(t) || !s.last.contains(t)) {
            return -1;
        }
        act();
        return sendBack(s, t);
    }

    int day() {
        if (shop == null || s.day == 999) {
            return -1;
        }
        act();
        s.day++;
        return saleOn(s.day);
    }

    int undo() {
        if (past.isEmpty()) {
            return -1;
        }
        s = past.remove(past.size() - 1);
        return past.size();
    }

    // ---- what is asked

    private record Found(int value, List<Integer> row) { }

    private static final Comparator<List<Integer>> BY_NUMBERS = (a, b) -> {
        for (int i = 0; i < Math.min(a.size(), b.size()); i++) {
            if (!a.get(i).equals(b.get(i))) {
                return a.get(i) - b.get(i);
            }
        }
        return a.size() - b.size();
    };

    private static Found least(List<List<Integer>> rows, ToIntFunction<List<Integer>> value, Comparator<List<Integer>> order) {
        List<Found> all = new ArrayList<>();
        for (List<Integer> row : rows) {
            all.add(new Found(value.applyAsInt(row), row));
        }
        all.sort(Comparator.comparingInt(Found::value).thenComparing(Found::row, order));
        return all.get(0);
    }

    private static int answer(Found f, int what) {
        return what == 0 ? f.value : what <= f.row.size() ? f.row.get(what - 1) : -2;
    }

    /** All rows of a length with numbers below those of tops. */
    private static List<List<Integer>> rows(int... tops) {
        List<List<Integer>> all = new ArrayList<>();
        all.add(List.of());
        for (int top : tops) {
            List<List<Integer>> longer = new ArrayList<>();
            for (List<Integer> row : all) {
                for (int v = 0; v < top; v++) {
                    List<Integer> next = new ArrayList<>(row);
                    next.add(v);
                    longer.add(next);
                }
            }
            all = longer;
        }
        return all;
    }

    private static List<List<Integer>> rowsUpTo(int least, int most, int top) {
        List<List<Integer>> all = new ArrayList<>();
        for (int n = least; n <= most; n++) {
            int[] tops = new int[n];
            Arrays.fill(tops, top);
            all.addAll(rows(tops));
        }
        return all;
    }

    private static boolean falls(List<Integer> row) {
        for (int i = 1; i < row.size(); i++) {
            if (row.get(i) < row.get(i - 1)) {
                return true;
            }
        }
        return false;
    }

    int order(int what) {
        if (shop == null || what < 0 || what > 5) {
            return -3;
        }
        List<List<Integer>> rows = rowsUpTo(0, shop.codes.size(), shop.codes.size());
        rows.removeIf(row -> {
            for (int i = 0; i < row.size(); i++) {
                for (int j = 0; j < i; j++) {
                    if (row.get(i).equals(row.get(j)) || alone(row.get(i), row.get(j))) {
                        return true;
                    }
                }
            }
            return row.stream().anyMatch(s.used::contains);
        });
        List<Integer> dear = dearOf(s.basket, s.day);
        return answer(least(rows, row -> bill(dear, row, shop.free)[0], BY_NUMBERS), what);
    }

    private Found filled(int free) {
        List<List<Integer>> rows = rowsUpTo(0, 3, shop.things.size());
        rows.removeIf(row -> {
            List<Integer> basket = new ArrayList<>(s.basket);
            for (int t : row) {
                if (!canPut(s, basket, t)) {
                    return true;
                }
                basket.add(t);
            }
            return falls(row);
        });
        List<Integer> dear = dearOf(s.basket, s.day);
        List<Integer> each = new ArrayList<>();
        for (int t = 0; t < shop.things.size(); t++) {
            each.add(priceNow(s, t, s.day));
        }
        return least(rows, row -> {
            List<Integer> all = new ArrayList<>(dear);
            row.forEach(t -> all.add(each.get(t)));
            return bill(all, s.laid, free)[0] - worth(shop, row);
        }, Comparator.<List<Integer>>comparingInt(List::size).thenComparing(BY_NUMBERS));
    }

    int fill(int what) {
        return shop == null || what < 0 || what > 3 ? -1000000 : answer(filled(shop.free), what);
    }

    int baskets(int what) {
        if (shop == null || what < 0 || what > 7) {
            return -3;
        }
        int n = shop.wants.size();
        int[] tops = new int[n];
        Arrays.setAll(tops, i -> i + 1);
        List<List<Integer>> rows = rows(tops);
        rows.removeIf(row -> {
            int greatest = -1;
            for (int v : row) {
                if (v > greatest + 1) {
                    return true;
                }
                greatest = Math.max(greatest, v);
            }
            return false;
        });
        List<Integer> wanted = new ArrayList<>();
        shop.wants.forEach(w -> wanted.add(w[0]));
        List<Integer> dear = dearOf(wanted, s.day);
        Found f = least(rows, row -> {
            int all = 0;
            for (int b = 0; b < n; b++) {
                List<Integer> in = new ArrayList<>();
                for (int w = 0; w < n; w++) {
                    if (row.get(w) == b) {
                        in.add(dear.get(w));
                    }
                }
                all += bill(in, List.of(), shop.free)[0];
            }
            return all;
        }, BY_NUMBERS);
        return what == 7 ? (int) f.row.stream().distinct().count() : answer(f, what);
    }

    int days(int what) {
        if (shop == null || what < 0 || what > 6) {
            return -3;
        }
        int n = shop.wants.size();
        int[] tops = new int[n];
        Arrays.setAll(tops, w -> shop.wants.get(w)[1] < s.day ? 1 : Math.min(5, shop.wants.get(w)[1] - s.day + 1));
        int[][] dear = new int[n][5];
        for (int w = 0; w < n; w++) {
            for (int d = 0; d < 5; d++) {
                dear[w][d] = priceNow(s, shop.wants.get(w)[0], s.day + d);
            }
        }
        return answer(least(rows(tops), row -> {
            int all = 0;
            for (int d = 0; d < 5; d++) {
                List<Integer> in = new ArrayList<>();
                for (int w = 0; w < n; w++) {
                    if (row.get(w) == d) {
                        in.add(dear[w][d]);
                    }
                }
                all += bill(in, List.of(), shop.free)[0];
            }
            return all;
        }, BY_NUMBERS), what);
    }

    int sent(int what) {
        if (shop == null || what < 0 || what > 8) {
            return -1000000;
        }
        int[] tops = new int[shop.things.size()];
        Arrays.setAll(tops, t -> countOf(s.last, t) + 1);
        Found f = least(rows(tops), row -> {
            State then = s.copy();
            int gain = 0;
            for (int t = 0; t < row.size(); t++) {
                for (int i = 0; i < row.get(t); i++) {
                    gain += sendBack(then, t) - shop.things.get(t)[1];
                }
            }
            return -gain;
        }, Comparator.<List<Integer>>comparingInt(r -> r.stream().mapToInt(Integer::intValue).sum()).thenComparing(BY_NUMBERS));
        return what == 0 ? -f.value : answer(f, what);
    }

    int join(int sum) {
        if (shop == null || sum < 1 || sum > 9999) {
            return -1000000;
        }
        List<Integer> both = dearOf(s.basket, s.day);
        both.add(sum);
        return cost(0) + sum + (sum < shop.free ? shop.carriage : 0) - bill(both, s.laid, shop.free)[0];
    }

    int freedom(int what) {
        if (shop == null || what < 0 || what > 1) {
            return -1000000;
        }
        int[] best = null;
        for (int free = 9500; free >= 0; free -= 500) {
            List<Integer> row = filled(free).row;
            List<Integer> all = dearOf(s.basket, s.day);
            all.addAll(dearOf(row, s.day));
            int gain = bill(all, s.laid, free)[0] - worth(shop, row) / 2;
            if (best == null || gain >= best[1]) {
                best = new int[] {free, gain};
            }
        }
        return best[what];
    }

    int receipt(int sum, int day, int what) {
        if (shop == null || sum < 0 || sum > 30000 || day < 0 || day > 99 || what < 0 || what > 5) {
            return -3;
        }
        List<Integer> each = new ArrayList<>();
        for (int t = 0; t < shop.things.size(); t++) {
            each.add(priceNow(s, t, day));
        }
        List<List<Integer>> rows = rowsUpTo(1, 4, shop.things.size());
        rows.removeIf(row -> falls(row) || bill(row.stream().map(each::get).toList(), List.of(), shop.free)[0] != sum);
        if (what == 0) {
            return rows.size();
        }
        if (what == 5) {
            int bits = 0;
            for (int t = 0; t < shop.things.size(); t++) {
                int thing = t;
                bits += !rows.isEmpty() && rows.stream().allMatch(r -> r.contains(thing)) ? 1 << t : 0;
            }
            return bits;
        }
        return rows.isEmpty() || rows.get(0).size() < what ? -2 : rows.get(0).get(what - 1);
    }

    int told(int t, int day, int looks, int dear) {
        if (t == -1) {
            prices.clear();
            return 0;
        }
        if (!hasThing(t) || day < 0 || day > 99 || looks < 0 || looks > 99 || dear < 1 || dear > 9999 || prices.size() == 10) {
            return -2;
        }
        prices.add(new int[] {t, day, looks, dear});
        return prices.size();
    }

    private List<Integer> so() {
        List<Integer> all = new ArrayList<>();
        for (int r = -1; r < rules.size(); r++) {
            int rule = r;
            if (prices.stream().allMatch(p -> price(s, rule, p[0], p[1], p[2]) == p[3])) {
                all.add(r);
            }
        }
        return all;
    }

    int ruled(int what) {
        if (shop == null || what < 0 || what > 1) {
            return -3;
        }
        List<Integer> so = so();
        return what == 0 ? so.size() : so.isEmpty() ? -2 : so.get(0);
    }

    int probe(int t, int day, int what) {
        if (!hasThing(t) || day < 0 || day > 99 || what < 0 || what > 1) {
            return -1;
        }
        List<Integer> so = so();
        if (so.isEmpty()) {
            return -2;
        }
        int[] best = null;
        for (int looks = 9; looks >= 0; looks--) {
            Map<Integer, Integer> groups = new HashMap<>();
            for (int r : so) {
                groups.merge(price(s, r, t, day, looks), 1, Integer::sum);
            }
            int most = groups.values().stream().mapToInt(Integer::intValue).max().orElse(0);
            if (best == null || most <= best[1]) {
                best = new int[] {looks, most};
            }
        }
        return best[what];
    }

    int await(int t, int what) {
        if (!hasThing(t) || what < 0 || what > 1) {
            return -1;
        }
        int[] best = null;
        for (int day = s.day + 30; day >= s.day; day--) {
            int dear = priceNow(s, t, day);
            if (best == null || dear <= best[1]) {
                best = new int[] {day, dear};
            }
        }
        return best[what];
    }

    int seed(int to) {
        if (to < 0) {
            return -1;
        }
        int was = (int) x;
        x = to;
        return was;
    }

    int years(int m, int n, int what) {
        if (shop == null || m < 1 || m > 10 || n < 1 || n > 60 || what < 0 || what > 1) {
            return -1;
        }
        int[] all = new int[2];
        int things = shop.things.size();
        long draws = x;
        for (int i = 0; i < m * n && things > 0; i++) {
            if (i % n == 0) {
                lived = s.copy();
            }
            draws = Long.remainderUnsigned(draws * 1103515245L + 12345, 1L << 31);
            int drawn = (int) ((draws >> 16) % (things + 1));
            if (drawn < things) {
                lived.looks.merge(drawn, 1, (a, b) -> Math.min(99, a + b));
                if (canPut(lived, lived.basket, drawn)) {
                    lived.basket.add(drawn);
                }
            } else {
                List<Integer> dear = new ArrayList<>();
                for (int t : lived.basket) {
                    dear.add(priceNow(lived, t, lived.day));
                }
                all[0] += bill(dear, List.of(), shop.free)[0];
                all[1] += dear.size();
                take(lived);
            }
            lived.day++;
        }
        return all[what];
    }

    private State lived;

    int count(int what) {
        int[] all = {shop == null ? 0 : shop.carriage, shop == null ? 0 : shop.free, shop == null ? 0 : shop.things.size(),
            shop == null ? 0 : shop.wants.size(), shop == null ? 0 : shop.codes.size(), rules.size(), force, s.day, s.paid,
            s.basket.size(), s.laid.size(), prices.size(), past.size(), (int) x, tape.size()};
        return what < 0 || what > 14 ? -1 : all[what];
    }

    int image(int k) {
        if (k < 0 || k > 3) {
            return -1;
        }
        images.put(k, new Image(shop, s.copy(), force, x, new ArrayList<>(prices)));
        return s.day;
    }

    int back(int k) {
        Image i = images.get(k);
        if (i == null) {
            return -1;
        }
        shop = i.shop;
        s = i.state.copy();
        force = i.force;
        x = i.x;
        prices = new ArrayList<>(i.prices);
        past.clear();
        return s.day;
    }
}
