import java.lang.reflect.InvocationTargetException;
import java.lang.reflect.Method;
import java.lang.reflect.Modifier;
import java.util.ArrayList;
import java.util.Arrays;
import java.util.Comparator;
import java.util.List;
import java.util.Random;

/** Runs of calls by chance, from seeds that are always the same, held against the Model. */
public final class RandomTest {
    private static final Due D = new Due();
    private static final String[] TEXT_CALLS = {"feed", "end", "shop", "rule"};

    private final Random random;
    private final FortyBasket x = new FortyBasket();
    private final Model model = new Model();
    private final List<String> log = new ArrayList<>();
    private final List<Method> others;

    private RandomTest(long seed, List<Method> others) {
        random = new Random(seed);
        this.others = others;
    }

    private int below(int n) {
        return random.nextInt(n);
    }

    private String of(String... all) {
        return all[below(all.length)];
    }

    private int call(Method method, Integer... args) throws ReflectiveOperationException {
        Method same = Model.class.getDeclaredMethod(method.getName(), method.getParameterTypes());
        int got;
        try {
            got = (Integer) method.invoke(x, (Object[]) args);
        } catch (InvocationTargetException e) {
            throw new IllegalStateException(log + " " + method.getName() + Arrays.toString(args), e.getCause());
        }
        int due = (Integer) same.invoke(model, (Object[]) args);
        String name = method.getName() + Arrays.toString(args);
        log.add(name + " = " + got);
        if (got != due) {
            D.is(log.subList(Math.max(0, log.size() - 400), log.size()) + " " + name, got, due);
            D.finish();
        }
        D.is(name, got, due);
        return got;
    }

    private int call(String name, Integer... args) throws ReflectiveOperationException {
        Class<?>[] types = new Class<?>[args.length];
        Arrays.fill(types, int.class);
        return call(FortyBasket.class.getMethod(name, types), args);
    }

    private void text(String text) throws ReflectiveOperationException {
        log.add("\"" + text + "\"");
        byte[] bytes = text.getBytes(java.nio.charset.StandardCharsets.ISO_8859_1);
        for (int i = 0; i < bytes.length; i += 20) {
            call("feed", Due.four(bytes, i), Due.four(bytes, i + 4), Due.four(bytes, i + 8), Due.four(bytes, i + 12), Due.four(bytes, i + 16));
        }
        call("end", bytes.length);
    }

    private String spoiled(String text) {
        StringBuilder b = new StringBuilder(text);
        for (int n = below(3); n > 0 && b.length() > 1; n--) {
            int at = below(b.length());
            switch (below(4)) {
                case 0 -> b.deleteCharAt(at);
                case 1 -> b.insert(at, of(" ", ";", "[", "]", "not ", "0", "9", "a", "told", "<", "=", "+", "%", "\0", "price ", "shop 1 1"));
                case 2 -> b.setCharAt(at, (char) below(256));
                default -> b.setLength(at);
            }
        }
        return b.length() > 400 ? b.substring(0, 400) : b.toString();
    }

    private String shopText() {
        boolean cheap = below(3) > 0;
        int most = cheap ? 60 : 5000;
        int from = cheap ? 200 : 9999;
        StringBuilder b = new StringBuilder("shop " + below(cheap ? 40 : 1000) + " " + below(from));
        int things = below(12) == 0 ? 0 : 1 + below(below(2) == 0 ? 4 : 8);
        for (int t = 0; t < things; t++) {
            int price = 1 + below(most);
            int worth = below(2) == 0 ? below(most) : Math.max(0, Math.min(5000, price + below(11) - 5));
            b.append(";thing ").append(price).append(' ').append(worth).append(' ').append(below(10));
        }
        for (int n = things == 0 ? 0 : below(7); n > 0; n--) {
            b.append(";want ").append(below(things)).append(' ').append(below(12));
        }
        int codes = below(6);
        for (int c = 0; c < codes; c++) {
            String kind = of(";percent ", ";off ", ";post ");
            b.append(kind).append(kind.equals(";post ") ? "" : 1 + below(kind.equals(";off ") ? cheap ? 60 : 2000 : 90) + " ").append(below(from));
        }
        for (int n = below(5); n > 0; n--) {
            int first = below(9);
            b.append(";sale ").append(first).append(' ').append(first + below(5)).append(' ').append(1 + below(90));
        }
        for (int n = codes < 2 ? 0 : below(3); n > 0; n--) {
            int one = below(codes);
            b.append(";alone ").append(one).append(' ').append((one + 1 + below(codes - 1)) % codes);
        }
        b.append(below(2) == 0 ? ";again" : "");
        return b.length() > 400 ? shopText() : b.toString();
    }

    private String sum() {
        StringBuilder b = new StringBuilder(value());
        for (int n = below(4); n > 0; n--) {
            b.append(of("", " ")).append(of("+", "-", "*", "/", "%")).append(of("", " ")).append(value());
        }
        return b.toString();
    }

    private String value() {
        return below(3) == 0 ? String.valueOf(below(below(4) == 0 ? 100000 : 30)) : of("thing", "told", "sale", "day", "looks", "stock", "bought", "worth");
    }

    private String test(int depth) {
        StringBuilder b = new StringBuilder(fact(depth));
        for (int n = below(3); n > 0; n--) {
            b.append(of(" and ", " or ")).append(fact(depth));
        }
        return b.toString();
    }

    private String fact(int depth) {
        int kind = below(depth > 0 ? 5 : 3);
        return kind == 3 ? "not " + fact(depth - 1) : kind == 4 ? "[" + test(depth - 1) + "]" : sum() + of("<", "<=", "=", ">=", ">", " < ") + sum();
    }

    private String ruleText() {
        StringBuilder b = new StringBuilder();
        for (int n = 1 + below(4); n > 0; n--) {
            b.append(b.length() > 0 ? ";" : "").append("price ").append(of("told + ", "told * 2 - ", "", "")).append(sum());
            if (below(3) > 0) {
                b.append(" if ").append(test(3));
            }
        }
        return b.length() > 400 ? b.substring(0, 400) : b.toString();
    }

    private void textCall() throws ReflectiveOperationException {
        boolean ofShop = random.nextBoolean();
        String text = ofShop ? shopText() : ruleText();
        text(below(3) == 0 ? spoiled(text) : text);
        call(ofShop ? "shop" : "rule");
        if (below(4) > 0) {
            call("end", 0);
        }
    }

    private int arg(int i, Method method) {
        String name = method.getName();
        int wild = below(60);
        if (wild == 0) {
            return random.nextInt();
        }
        if (wild < 4) {
            return below(30) - 10;
        }
        int things = x.count(2) + 1;
        switch (name) {
            case "join": return below(2) == 0 ? 1 + below(9999) : 1 + below(300);
            case "seed": return random.nextInt() & Integer.MAX_VALUE;
            case "force": return below(7) - 1;
            case "image": return below(4);
            case "back": return below(4);
            case "count": return below(15);
            case "dear": return i == 0 ? below(things) : i == 1 ? below(15) : below(5);
            case "receipt": return i == 0 ? below(2) == 0 ? cheapSum() : below(9000) : i == 1 ? below(12) : below(6);
            case "probe": return i == 0 ? below(things) : i == 1 ? below(12) : below(2);
            case "years": return i == 0 ? 1 + below(10) : i == 1 ? 1 + below(60) : below(2);
            case "thing": return i == 0 ? below(things) : below(8);
            case "code": return below(6);
            case "lay": return below(6);
            case "lift": return below(6);
            case "want": return i == 0 ? below(7) : below(2);
            case "cost": return below(2);
            case "await": return i == 0 ? below(things) : below(2);
            case "told": return i == 0 ? below(things) : below(20);
            default: return below(things);
        }
    }

    /** A sum that some basket comes to. */
    private int cheapSum() {
        int sum = x.count(0) * below(2);
        for (int n = 1 + below(4); n > 0; n--) {
            sum += Math.max(0, x.thing(below(Math.max(1, x.count(2))), 0));
        }
        return sum;
    }

    private void act() throws ReflectiveOperationException {
        int things = Math.max(1, x.count(2));
        int codes = Math.max(1, x.count(4));
        switch (below(20)) {
            case 0, 1, 2 -> call("look", below(things));
            case 3 -> call("buy");
            case 4 -> call("sendBack", below(things));
            case 5, 6, 7 -> call("lay", below(codes));
            case 8 -> call("lift", below(codes));
            case 9 -> call("drop", below(things));
            case 10 -> call("day");
            case 11 -> call("undo");
            default -> call("put", below(things));
        }
    }

    private void tell() throws ReflectiveOperationException {
        int thing = below(Math.max(1, x.count(2)));
        int day = below(10);
        int looks = below(5);
        int dear = x.dear(thing, day, looks);
        call("told", below(5) == 0 ? -1 : thing, day, looks, below(8) == 0 ? below(99) : dear);
    }

    private void askAll(Method method) throws ReflectiveOperationException {
        Integer[] args = new Integer[method.getParameterCount()];
        for (int i = 0; i < args.length; i++) {
            args[i] = arg(i, method);
        }
        call(method, args);
    }

    /** All parts of one answer. */
    private void askWhole() throws ReflectiveOperationException {
        String name = of("order", "fill", "baskets", "days", "days", "sent", "sent", "sent", "freedom", "ruled", "receipt", "probe", "await", "years");
        int first = arg(0, FortyBasket.class.getMethod("put", int.class));
        int sum = cheapSum();
        int day = below(12);
        int times = 1 + below(4);
        int days = 1 + below(60);
        for (int what = -1; what < 10; what++) {
            switch (name) {
                case "receipt" -> call(name, sum, day, what);
                case "probe" -> call(name, first, day, what);
                case "await" -> call(name, first, what);
                case "years" -> call(name, times, days, what);
                default -> call(name, what);
            }
        }
    }

    private void live(int calls) throws ReflectiveOperationException {
        for (int n = below(5); n > 0; n--) {
            text(ruleText());
            call("rule");
        }
        call("force", below(5) - 1);
        text(shopText());
        call("shop");
        while (log.size() < calls) {
            int kind = below(40);
            if (kind == 0) {
                textCall();
            } else if (kind < 28) {
                act();
            } else if (kind < 30) {
                tell();
            } else if (kind < 34) {
                askWhole();
            } else {
                askAll(others.get(below(others.size())));
            }
        }
    }

    public static void main(String[] args) throws ReflectiveOperationException {
        List<Method> others = new ArrayList<>();
        for (Method m : FortyBasket.class.getDeclaredMethods()) {
            if (Modifier.isPublic(m.getModifiers()) && !Arrays.asList(TEXT_CALLS).contains(m.getName())) {
                others.add(m);
            }
        }
        others.sort(Comparator.comparing(Method::getName));
        long first = args.length > 0 ? Long.parseLong(args[0]) : 1;
        int runs = args.length > 1 ? Integer.parseInt(args[1]) : 400;
        for (long seed = first; seed < first + runs; seed++) {
            new RandomTest(seed, others).live(500);
        }
        D.finish();
    }
}
