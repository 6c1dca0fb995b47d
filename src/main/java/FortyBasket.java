import java.util.Arrays;

/** A shop with carriage that falls away from a sum on; README.md says how to use it. */
public final class FortyBasket {
    public static final int NONE = -1;

    private static final int NO_SUCH = -2;
    private static final int REFUSED = -3;
    private static final int REFUSED_SUM = -1000000;

    private static final int TAPE = 400;
    private static final int FEED = 20;
    private static final int THINGS = 8;
    private static final int WANTS = 6;
    private static final int SALES = 4;
    private static final int CODES = 5;
    private static final int SHOP_CLAUSES = 40;
    private static final int RULES = 6;
    private static final int RULE_CLAUSES = 12;
    private static final int DEPTH = 10;
    private static final int VALUES = 60;
    private static final int DIGITS = 5;
    private static final int MOST_NUMBER = 99999;
    private static final int IN_BASKET = 12;
    private static final int MOST_STOCK = 9;
    private static final int MOST_LOOKS = 99;
    private static final int MOST_DEAR = 9999;
    private static final int MOST_SUM = 9999;
    private static final int LAST_DAY = 999;
    private static final int LAST_TOLD_DAY = 99;
    private static final int ACTS = 20;
    private static final int PRICES = 10;
    private static final int IMAGES = 4;
    private static final int MOST_RECEIPT = 30000;
    private static final int FILL_ROW = 3;
    private static final int RECEIPT_ROW = 4;
    private static final int DAYS_AHEAD = 4;
    private static final int WAIT_AHEAD = 30;
    private static final int PROBE_LOOKS = 9;
    private static final int FREE_STEP = 500;
    private static final int LAST_FREE = 9500;
    private static final int MOST_TIMES = 10;
    private static final int MOST_DAYS = 60;
    // Far above what any search needs, so that its loop is seen to end.
    private static final int MOST_ROWS = 1000000;

    private static final int FAULT_SIGN = 0;
    private static final int FAULT_NUMBER = 1;
    private static final int FAULT_DEPTH = 2;
    private static final int FAULT_VALUES = 3;
    private static final int FAULT_CLAUSE = 4;

    // Each word has eight signs, and its token is its place here: WORDS of a VALUE ahead of the others.
    private static final String WORDS = "thing   told    sale    day     looks   stock   bought  worth   shop    want    percent off     post    alone   again   price   if      or      and     not     ";
    private static final int WORD_WIDTH = 8;
    private static final int VALUE_WORDS = 8;
    private static final int ALL_WORDS = 20;
    private static final int THING = 0;
    private static final int TOLD = 1;
    private static final int SALE = 2;
    private static final int DAY = 3;
    private static final int LOOKS = 4;
    private static final int STOCK = 5;
    private static final int BOUGHT = 6;
    private static final int WORTH = 7;
    private static final int SHOP = 8;
    private static final int WANT = 9;
    private static final int PERCENT = 10;
    private static final int OFF = 11;
    private static final int POST = 12;
    private static final int ALONE = 13;
    private static final int AGAIN = 14;
    private static final int PRICE = 15;
    private static final int IF = 16;
    private static final int OR = 17;
    private static final int AND = 18;
    private static final int NOT = 19;
    private static final int NUMBER = 20;
    private static final int END = 21;
    private static final int OTHER = 22;
    private static final int NEXT = 23;
    private static final int OPEN = 24;
    private static final int CLOSE = 25;
    private static final int PLUS = 26;
    private static final int MINUS = 27;
    private static final int TIMES = 28;
    private static final int OVER = 29;
    private static final int REST = 30;
    private static final int LESS = 31;
    private static final int AT_MOST = 32;
    private static final int EQUAL = 33;
    private static final int AT_LEAST = 34;
    private static final int MORE = 35;

    private final Text tape = new Text();
    private final ShopReader shopReader = new ShopReader(tape);
    private final RuleReader ruleReader = new RuleReader(tape);
    private final World now = new World();
    private final Till till = new Till(now);
    private final Planner planner = new Planner(now, till);
    private final Past past = new Past();
    private final World[] images = new World[IMAGES];
    private final boolean[] imaged = new boolean[IMAGES];

    public FortyBasket() {
        for (int k = 0; k < IMAGES; k++) {
            images[k] = new World();
        }
    }

    public int feed(int a, int b, int c, int d, int e) {
        if (tape.length + FEED > TAPE) {
            return NONE;
        }
        tape.add(a);
        tape.add(b);
        tape.add(c);
        tape.add(d);
        tape.add(e);
        return tape.length;
    }

    public int end(int n) {
        if (n < 0 || n > tape.length) {
            return NONE;
        }
        tape.length = n;
        return n;
    }

    public int shop() {
        // Images keep the shop of their time, so a new one is never written over it.
        Shop told = new Shop();
        int fault = shopReader.read(told);
        tape.length = 0;
        if (fault != 0) {
            return NO_SUCH - fault;
        }
        now.open(told);
        past.clear();
        return told.things;
    }

    public int rule() {
        if (till.ruleCount >= RULES) {
            return NONE;
        }
        int fault = ruleReader.read(till.rules[till.ruleCount]);
        tape.length = 0;
        if (fault != 0) {
            return NO_SUCH - fault;
        }
        till.ruleCount++;
        return till.ruleCount - 1;
    }

    public int force(int rule) {
        if (rule < NONE || rule >= till.ruleCount) {
            return NO_SUCH;
        }
        int before = now.inForce;
        now.inForce = rule;
        return before;
    }

    public int thing(int thing, int what) {
        if (!now.shop.hasThing(thing)) {
            return NONE;
        }
        State state = now.state;
        switch (what) {
            case 0: return till.dearToday(thing);
            case 1: return state.stock[thing];
            case 2: return state.basket[thing];
            case 3: return state.had[thing];
            case 4: return state.looks[thing];
            case 5: return state.last[thing];
            case 6: return now.shop.price[thing];
            case 7: return now.shop.worth[thing];
            default: return NONE;
        }
    }

    public int code(int code, int what) {
        Shop shop = now.shop;
        if (!shop.hasCode(code)) {
            return NO_SUCH;
        }
        switch (what) {
            // The words percent, off, post stand in this order among the tokens.
            case 0: return shop.codeKind[code] - PERCENT;
            case 1: return shop.codeMuch[code];
            case 2: return shop.codeFrom[code];
            case 3: return now.state.placeOf(code);
            case 4: return now.state.isUsed(code) ? 1 : 0;
            case 5: return shop.codeAlone[code];
            default: return NO_SUCH;
        }
    }

    public int want(int want, int what) {
        if (want < 0 || want >= now.shop.wants || what < 0 || what > 1) {
            return NONE;
        }
        return what == 0 ? now.shop.wantThing[want] : now.shop.wantDay[want];
    }

    public int dear(int thing, int day, int looks) {
        if (!now.shop.hasThing(thing) || !within(day, 0, LAST_DAY) || !within(looks, 0, MOST_LOOKS)) {
            return NONE;
        }
        return till.dearness(now.state, now.inForce, thing, day, looks);
    }

    public int cost(int what) {
        if (!now.shop.open || what < 0 || what > 1) {
            return NONE;
        }
        int all = till.basketCost();
        return what == 0 ? all : till.carriage;
    }

    public int put(int thing) {
        State state = now.state;
        if (!now.shop.hasThing(thing) || !state.canPut(thing)) {
            return NONE;
        }
        past.keep(state);
        state.basket[thing]++;
        return state.basket[thing];
    }

    public int drop(int thing) {
        State state = now.state;
        if (!now.shop.hasThing(thing) || state.basket[thing] < 1) {
            return NONE;
        }
        past.keep(state);
        state.basket[thing]--;
        return state.basket[thing];
    }

    public int lay(int code) {
        State state = now.state;
        if (!now.shop.hasCode(code) || state.isUsed(code)
                || !now.shop.goesWith(code, state.laid, state.laidCount)) {
            return NONE;
        }
        past.keep(state);
        state.laid[state.laidCount] = code;
        state.laidCount++;
        return state.laidCount;
    }

    public int lift(int code) {
        State state = now.state;
        int place = state.placeOf(code);
        if (place < 0) {
            return NONE;
        }
        past.keep(state);
        for (int i = place; i + 1 < state.laidCount; i++) {
            state.laid[i] = state.laid[i + 1];
        }
        state.laidCount--;
        return state.laidCount;
    }

    public int look(int thing) {
        if (!now.shop.hasThing(thing)) {
            return NONE;
        }
        past.keep(now.state);
        now.state.lookAt(thing);
        return till.dearToday(thing);
    }

    public int buy() {
        State state = now.state;
        if (state.size() < 1) {
            return NONE;
        }
        past.keep(state);
        int paid = till.basketCost();
        for (int t = 0; t < now.shop.things; t++) {
            state.lastDear[t] = till.dearToday(t);
        }
        state.rememberLast(paid);
        state.takeBasket();
        return paid;
    }

    public int sendBack(int thing) {
        State state = now.state;
        if (!now.shop.hasThing(thing) || state.last[thing] < 1) {
            return NONE;
        }
        past.keep(state);
        state.last[thing]--;
        state.had[thing]--;
        state.stock[thing] = Math.min(MOST_STOCK, state.stock[thing] + 1);
        int back = till.comesBack(thing, state.last, state.lastPaid);
        state.lastPaid -= back;
        state.paid -= back;
        return back;
    }

    public int day() {
        if (!now.shop.open || now.state.day >= LAST_DAY) {
            return NONE;
        }
        past.keep(now.state);
        now.state.day++;
        return now.shop.percentOn(now.state.day);
    }

    public int undo() {
        if (past.kept < 1) {
            return NONE;
        }
        past.giveBack(now.state);
        return past.kept;
    }

    public int order(int what) {
        if (!now.shop.open || what < 0 || what > CODES) {
            return REFUSED;
        }
        planner.seekOrder();
        return planner.best.answer(what);
    }

    public int fill(int what) {
        if (!now.shop.open || what < 0 || what > FILL_ROW) {
            return REFUSED_SUM;
        }
        planner.priceAll(now.state.day);
        planner.seekFill(now.shop.free);
        return planner.best.answer(what);
    }

    public int baskets(int what) {
        if (!now.shop.open || what < 0 || what > WANTS + 1) {
            return REFUSED;
        }
        planner.seekBaskets();
        return what > WANTS ? planner.best.greatest() + 1 : planner.best.answer(what);
    }

    public int days(int what) {
        if (!now.shop.open || what < 0 || what > WANTS) {
            return REFUSED;
        }
        planner.seekDays();
        return planner.best.answer(what);
    }

    public int sent(int what) {
        if (!now.shop.open || what < 0 || what > THINGS) {
            return REFUSED_SUM;
        }
        planner.seekReturn();
        return what == 0 ? -planner.best.value : planner.best.answer(what);
    }

    public int join(int sum) {
        if (!now.shop.open || !within(sum, 1, MOST_SUM)) {
            return REFUSED_SUM;
        }
        State state = now.state;
        int apart = till.basketCost() + till.plainCost(sum);
        int size = state.size() + 1;
        return apart - till.reckon(size, till.basketSum() + sum, state.laid, state.laidCount, now.shop.free);
    }

    public int freedom(int what) {
        if (!now.shop.open || what < 0 || what > 1) {
            return REFUSED_SUM;
        }
        planner.seekFreedom();
        return what == 0 ? planner.bestFree : planner.bestGain;
    }

    public int receipt(int sum, int day, int what) {
        if (!now.shop.open || !within(sum, 0, MOST_RECEIPT) || !within(day, 0, LAST_TOLD_DAY)
                || !within(what, 0, RECEIPT_ROW + 1)) {
            return REFUSED;
        }
        planner.seekReceipt(sum, day);
        if (what == 0) {
            return planner.receipts;
        }
        return what > RECEIPT_ROW ? planner.inAll : planner.best.answer(what);
    }

    public int told(int thing, int day, int looks, int dear) {
        if (thing == NONE) {
            now.toldCount = 0;
            return 0;
        }
        if (!now.shop.hasThing(thing) || !within(day, 0, LAST_TOLD_DAY) || !within(looks, 0, MOST_LOOKS)
                || !within(dear, 1, MOST_DEAR) || now.toldCount >= PRICES) {
            return NO_SUCH;
        }
        now.tell(thing, day, looks, dear);
        return now.toldCount;
    }

    public int ruled(int what) {
        if (!now.shop.open || what < 0 || what > 1) {
            return REFUSED;
        }
        planner.seekRuled();
        if (what == 0) {
            return planner.ruledCount;
        }
        return planner.ruledCount > 0 ? planner.ruledBy[0] : NO_SUCH;
    }

    public int probe(int thing, int day, int what) {
        if (!now.shop.hasThing(thing) || !within(day, 0, LAST_TOLD_DAY) || what < 0 || what > 1) {
            return NONE;
        }
        planner.seekRuled();
        if (planner.ruledCount < 1) {
            return NO_SUCH;
        }
        planner.seekProbe(thing, day);
        return planner.best.answer(1 - what);
    }

    public int await(int thing, int what) {
        if (!now.shop.hasThing(thing) || what < 0 || what > 1) {
            return NONE;
        }
        planner.seekWait(thing);
        return planner.best.answer(1 - what);
    }

    public int seed(int x) {
        if (x < 0) {
            return NONE;
        }
        int before = now.x;
        now.x = x;
        return before;
    }

    public int years(int m, int n, int what) {
        if (!now.shop.open || !within(m, 1, MOST_TIMES) || !within(n, 1, MOST_DAYS) || what < 0 || what > 1) {
            return NONE;
        }
        planner.live(m, n);
        return what == 0 ? planner.livedPaid : planner.livedThings;
    }

    public int count(int what) {
        switch (what) {
            case 0: return now.shop.carriage;
            case 1: return now.shop.free;
            case 2: return now.shop.things;
            case 3: return now.shop.wants;
            case 4: return now.shop.codes;
            case 5: return till.ruleCount;
            case 6: return now.inForce;
            case 7: return now.state.day;
            case 8: return now.state.paid;
            case 9: return now.state.size();
            case 10: return now.state.laidCount;
            case 11: return now.toldCount;
            case 12: return past.kept;
            case 13: return now.x;
            case 14: return tape.length;
            default: return NONE;
        }
    }

    public int image(int k) {
        if (k < 0 || k >= IMAGES) {
            return NONE;
        }
        images[k].become(now);
        imaged[k] = true;
        return now.state.day;
    }

    public int back(int k) {
        if (k < 0 || k >= IMAGES || !imaged[k]) {
            return NONE;
        }
        now.become(images[k]);
        past.clear();
        return now.state.day;
    }

    private static boolean within(int number, int least, int most) {
        return number >= least && number <= most;
    }

    /** The TAPE, and the reading of it token by token as far as its first FAULT. */
    private static final class Text {
        private final byte[] bytes = new byte[TAPE];
        private int length;
        private int place;
        private int token;
        private int at;
        private int number;
        private int fault;

        private void add(int four) {
            for (int shift = 24; shift >= 0 && length < TAPE; shift -= 8) {
                bytes[length] = (byte) (four >> shift);
                length++;
            }
        }

        private void begin() {
            place = 0;
            fault = 0;
            next();
        }

        private void fail(int kind) {
            if (fault == 0) {
                fault = 1 + 8 * at + kind;
            }
            // Behind a FAULT nothing is read any more: all loops of the readers stop at END.
            token = END;
            place = length;
        }

        private void next() {
            while (place < length && bytes[place] == ' ') {
                place++;
            }
            at = place;
            if (place >= length) {
                token = END;
            } else if (bytes[place] >= '0' && bytes[place] <= '9') {
                nextNumber();
            } else if (bytes[place] >= 'a' && bytes[place] <= 'z') {
                nextWord();
            } else {
                nextSign();
            }
        }

        private void nextNumber() {
            token = NUMBER;
            number = 0;
            while (place < length && bytes[place] >= '0' && bytes[place] <= '9') {
                // One that is too long is held above all that is allowed, and can't run over.
                number = place - at < DIGITS ? number * 10 + bytes[place] - '0' : MOST_NUMBER + 1;
                place++;
            }
        }

        private void nextWord() {
            while (place < length && bytes[place] >= 'a' && bytes[place] <= 'z') {
                place++;
            }
            token = OTHER;
            int letters = place - at;
            for (int word = 0; word < ALL_WORDS && letters < WORD_WIDTH; word++) {
                int from = word * WORD_WIDTH;
                int same = 0;
                while (same < letters && WORDS.charAt(from + same) == bytes[at + same]) {
                    same++;
                }
                if (same == letters && WORDS.charAt(from + same) == ' ') {
                    token = word;
                }
            }
        }

        private void nextSign() {
            boolean beforeEqual = place + 1 < length && bytes[place + 1] == '=';
            switch (bytes[place]) {
                case ';': token = NEXT; break;
                case '[': token = OPEN; break;
                case ']': token = CLOSE; break;
                case '+': token = PLUS; break;
                case '-': token = MINUS; break;
                case '*': token = TIMES; break;
                case '/': token = OVER; break;
                case '%': token = REST; break;
                case '<': token = beforeEqual ? AT_MOST : LESS; break;
                case '=': token = EQUAL; break;
                case '>': token = beforeEqual ? AT_LEAST : MORE; break;
                default: token = OTHER; break;
            }
            place += token == AT_MOST || token == AT_LEAST ? 2 : 1;
        }
    }

    /** A SHOP as it was told; nothing in it changes once it has been read. */
    private static final class Shop {
        private boolean open;
        private int carriage;
        private int free;
        private boolean again;
        private int things;
        private final int[] price = new int[THINGS];
        private final int[] worth = new int[THINGS];
        private final int[] stock = new int[THINGS];
        private int wants;
        private final int[] wantThing = new int[WANTS];
        private final int[] wantDay = new int[WANTS];
        private int sales;
        private final int[] saleFirst = new int[SALES];
        private final int[] saleLast = new int[SALES];
        private final int[] salePercent = new int[SALES];
        private int codes;
        private final int[] codeKind = new int[CODES];
        private final int[] codeMuch = new int[CODES];
        private final int[] codeFrom = new int[CODES];
        private final int[] codeAlone = new int[CODES];

        private boolean hasThing(int thing) {
            return thing >= 0 && thing < things;
        }

        private boolean hasCode(int code) {
            return code >= 0 && code < codes;
        }

        private int percentOn(int day) {
            int percent = 0;
            for (int s = 0; s < sales; s++) {
                if (within(day, saleFirst[s], saleLast[s])) {
                    percent = salePercent[s];
                }
            }
            return percent;
        }

        /** Whether a CODE may stand behind those of a row: not in it, and alone with none of them. */
        private boolean goesWith(int code, int[] row, int length) {
            for (int i = 0; i < length; i++) {
                if (row[i] == code || (codeAlone[code] >> row[i] & 1) == 1) {
                    return false;
                }
            }
            return true;
        }
    }

    /** Reads a SHOP from the TAPE. */
    private static final class ShopReader {
        private final Text text;
        private Shop shop;
        private int clauses;

        private ShopReader(Text text) {
            this.text = text;
        }

        private int read(Shop empty) {
            shop = empty;
            clauses = 0;
            text.begin();
            clause();
            for (int i = 0; i < TAPE && text.token == NEXT; i++) {
                text.next();
                clause();
            }
            if (text.token != END) {
                text.fail(FAULT_SIGN);
            }
            shop.open = true;
            return text.fault;
        }

        private void clause() {
            int word = text.token;
            if (word != THING && word != SALE && !within(word, SHOP, AGAIN)) {
                text.fail(FAULT_SIGN);
                return;
            }
            if (isTooMany(word)) {
                text.fail(FAULT_CLAUSE);
                return;
            }
            clauses++;
            text.next();
            switch (word) {
                case SHOP: carriageClause(); break;
                case THING: thingClause(); break;
                case WANT: wantClause(); break;
                case SALE: saleClause(); break;
                case ALONE: aloneClause(); break;
                case AGAIN: shop.again = true; break;
                default: codeClause(word); break;
            }
        }

        private boolean isTooMany(int word) {
            if (clauses >= SHOP_CLAUSES || (word == SHOP) != (clauses == 0)) {
                return true;
            }
            switch (word) {
                case THING: return shop.things >= THINGS;
                case WANT: return shop.wants >= WANTS;
                case SALE: return shop.sales >= SALES;
                case PERCENT: return shop.codes >= CODES;
                case OFF: return shop.codes >= CODES;
                case POST: return shop.codes >= CODES;
                case AGAIN: return shop.again;
                default: return false;
            }
        }

        private void carriageClause() {
            shop.carriage = number(0, 999);
            shop.free = number(0, MOST_SUM);
        }

        private void thingClause() {
            int thing = shop.things;
            shop.price[thing] = number(1, 5000);
            shop.worth[thing] = number(0, 5000);
            shop.stock[thing] = number(0, MOST_STOCK);
            shop.things++;
        }

        private void wantClause() {
            int want = shop.wants;
            shop.wantThing[want] = number(0, shop.things - 1);
            shop.wantDay[want] = number(0, 30);
            shop.wants++;
        }

        private void saleClause() {
            int sale = shop.sales;
            shop.saleFirst[sale] = number(0, LAST_TOLD_DAY);
            shop.saleLast[sale] = number(shop.saleFirst[sale], LAST_TOLD_DAY);
            shop.salePercent[sale] = number(1, 90);
            shop.sales++;
        }

        private void codeClause(int kind) {
            int code = shop.codes;
            shop.codeKind[code] = kind;
            if (kind == PERCENT) {
                shop.codeMuch[code] = number(1, 90);
            } else if (kind == OFF) {
                shop.codeMuch[code] = number(1, 2000);
            }
            shop.codeFrom[code] = number(0, MOST_SUM);
            shop.codes++;
        }

        private void aloneClause() {
            int one = number(0, shop.codes - 1);
            if (text.token == NUMBER && text.number == one) {
                text.fail(FAULT_NUMBER);
            }
            int other = number(0, shop.codes - 1);
            if (text.fault == 0) {
                shop.codeAlone[one] |= 1 << other;
                shop.codeAlone[other] |= 1 << one;
            }
        }

        private int number(int least, int most) {
            if (text.token != NUMBER) {
                text.fail(FAULT_SIGN);
                return 0;
            }
            int number = text.number;
            if (!within(number, least, most)) {
                text.fail(FAULT_NUMBER);
                return 0;
            }
            text.next();
            return number;
        }
    }

    /** A RULE, as instructions for a stack: a number from 0 on is put on it, -1 - a token is done. */
    private static final class Rule {
        private final int[] instructions = new int[TAPE];
        private final int[] sumFrom = new int[RULE_CLAUSES];
        private final int[] testFrom = new int[RULE_CLAUSES];
        private final int[] testEnd = new int[RULE_CLAUSES];
        private final long[] stack = new long[VALUES + 2];
        private int length;
        private int clauses;

        private int priceBy(long[] words) {
            for (int c = 0; c < clauses; c++) {
                if (testFrom[c] == testEnd[c] || run(testFrom[c], testEnd[c], words) != 0) {
                    long sum = run(sumFrom[c], testFrom[c], words);
                    return (int) Math.max(1, Math.min(MOST_DEAR, sum));
                }
            }
            return 1;
        }

        private long run(int from, int to, long[] words) {
            int top = 0;
            for (int i = from; i < to; i++) {
                int instruction = instructions[i];
                int token = -1 - instruction;
                if (token < VALUE_WORDS) {
                    if (top < stack.length) {
                        stack[top] = token < 0 ? instruction : words[token];
                        top++;
                    }
                } else if (token == NOT) {
                    if (top > 0) {
                        stack[top - 1] = 1 - stack[top - 1];
                    }
                } else if (top > 1) {
                    top--;
                    stack[top - 1] = together(token, stack[top - 1], stack[top]);
                }
            }
            return stack[0];
        }

        private static long together(int token, long a, long b) {
            switch (token) {
                case PLUS: return a + b;
                case MINUS: return a - b;
                case TIMES: return a * b;
                case OVER: return b == 0 ? 0 : a / b;
                case REST: return b == 0 ? 0 : a % b;
                case LESS: return a < b ? 1 : 0;
                case AT_MOST: return a <= b ? 1 : 0;
                case EQUAL: return a == b ? 1 : 0;
                case AT_LEAST: return a >= b ? 1 : 0;
                case MORE: return a > b ? 1 : 0;
                case OR: return a | b;
                default: return a & b;
            }
        }
    }

    /** Reads a RULE from the TAPE. */
    private static final class RuleReader {
        private final Text text;
        private Rule rule;
        private int values;

        private RuleReader(Text text) {
            this.text = text;
        }

        private int read(Rule into) {
            rule = into;
            rule.length = 0;
            rule.clauses = 0;
            values = 0;
            text.begin();
            clause();
            for (int i = 0; i < TAPE && text.token == NEXT; i++) {
                text.next();
                clause();
            }
            if (text.token != END) {
                text.fail(FAULT_SIGN);
            }
            return text.fault;
        }

        private void clause() {
            if (text.token != PRICE) {
                text.fail(FAULT_SIGN);
                return;
            }
            int clause = rule.clauses;
            if (clause >= RULE_CLAUSES) {
                text.fail(FAULT_CLAUSE);
                return;
            }
            rule.clauses++;
            text.next();
            rule.sumFrom[clause] = rule.length;
            sum(0);
            rule.testFrom[clause] = rule.length;
            if (text.token == IF) {
                text.next();
                test(0, 0);
            }
            rule.testEnd[clause] = rule.length;
        }

        /** A TEST at level 0, a PART at level 1, a FACT at level 2. */
        private void test(int level, int depth) {
            if (level < 2) {
                rowOfTests(level, depth);
                return;
            }
            if (text.token == NOT || text.token == OPEN) {
                enclosedFact(depth);
                return;
            }
            sum(0);
            int sign = text.token;
            if (!within(sign, LESS, MORE)) {
                text.fail(FAULT_SIGN);
                return;
            }
            countOne();
            text.next();
            sum(0);
            emit(-1 - sign);
        }

        private void rowOfTests(int level, int depth) {
            int between = level == 0 ? OR : AND;
            test(level + 1, depth);
            for (int i = 0; i < TAPE && text.token == between; i++) {
                text.next();
                test(level + 1, depth);
                emit(-1 - between);
            }
        }

        private void enclosedFact(int depth) {
            if (depth >= DEPTH) {
                text.fail(FAULT_DEPTH);
            } else if (text.token == NOT) {
                text.next();
                test(2, depth + 1);
                emit(-1 - NOT);
            } else {
                text.next();
                test(0, depth + 1);
                if (text.token != CLOSE) {
                    text.fail(FAULT_SIGN);
                }
                text.next();
            }
        }

        /** A SUM at level 0, a TERM at level 1, a VALUE at level 2: a row of those of the next level. */
        private void sum(int level) {
            if (level > 1) {
                amount();
                return;
            }
            int first = level == 0 ? PLUS : TIMES;
            int last = level == 0 ? MINUS : REST;
            sum(level + 1);
            for (int i = 0; i < TAPE && within(text.token, first, last); i++) {
                int sign = text.token;
                text.next();
                sum(level + 1);
                emit(-1 - sign);
            }
        }

        private void amount() {
            int token = text.token;
            if (token != NUMBER && token >= VALUE_WORDS) {
                text.fail(FAULT_SIGN);
                return;
            }
            if (token == NUMBER && text.number > MOST_NUMBER) {
                text.fail(FAULT_NUMBER);
                return;
            }
            countOne();
            emit(token == NUMBER ? text.number : -1 - token);
            text.next();
        }

        private void countOne() {
            if (values >= VALUES) {
                text.fail(FAULT_VALUES);
            }
            values++;
        }

        private void emit(int instruction) {
            if (rule.length < TAPE) {
                rule.instructions[rule.length] = instruction;
                rule.length++;
            }
        }
    }

    /** What ACTS change, and so what is UNDONE. */
    private static final class State {
        private final int[] basket = new int[THINGS];
        private final int[] stock = new int[THINGS];
        private final int[] had = new int[THINGS];
        private final int[] looks = new int[THINGS];
        private final int[] last = new int[THINGS];
        private final int[] lastDear = new int[THINGS];
        private final int[] laid = new int[CODES];
        private final int[] lastLaid = new int[CODES];
        private int laidCount;
        private int lastLaidCount;
        private int used;
        private int paid;
        private int lastPaid;
        private int day;

        private void begin(Shop shop) {
            Arrays.fill(basket, 0);
            System.arraycopy(shop.stock, 0, stock, 0, THINGS);
            Arrays.fill(had, 0);
            Arrays.fill(looks, 0);
            Arrays.fill(last, 0);
            Arrays.fill(lastDear, 0);
            laidCount = 0;
            lastLaidCount = 0;
            used = 0;
            paid = 0;
            lastPaid = 0;
            day = 0;
        }

        private void become(State other) {
            System.arraycopy(other.basket, 0, basket, 0, THINGS);
            System.arraycopy(other.stock, 0, stock, 0, THINGS);
            System.arraycopy(other.had, 0, had, 0, THINGS);
            System.arraycopy(other.looks, 0, looks, 0, THINGS);
            System.arraycopy(other.last, 0, last, 0, THINGS);
            System.arraycopy(other.lastDear, 0, lastDear, 0, THINGS);
            System.arraycopy(other.laid, 0, laid, 0, CODES);
            System.arraycopy(other.lastLaid, 0, lastLaid, 0, CODES);
            laidCount = other.laidCount;
            lastLaidCount = other.lastLaidCount;
            used = other.used;
            paid = other.paid;
            lastPaid = other.lastPaid;
            day = other.day;
        }

        private int size() {
            int size = 0;
            for (int t = 0; t < THINGS; t++) {
                size += basket[t];
            }
            return size;
        }

        private boolean canPut(int thing) {
            return basket[thing] < stock[thing] && size() < IN_BASKET;
        }

        private void lookAt(int thing) {
            looks[thing] = Math.min(MOST_LOOKS, looks[thing] + 1);
        }

        private int placeOf(int code) {
            for (int i = 0; i < laidCount; i++) {
                if (laid[i] == code) {
                    return i;
                }
            }
            return NONE;
        }

        private boolean isUsed(int code) {
            return (used >> code & 1) == 1;
        }

        private void rememberLast(int cost) {
            System.arraycopy(basket, 0, last, 0, THINGS);
            System.arraycopy(laid, 0, lastLaid, 0, CODES);
            lastLaidCount = laidCount;
            lastPaid = cost;
            paid += cost;
            for (int i = 0; i < laidCount; i++) {
                used |= 1 << laid[i];
            }
            laidCount = 0;
        }

        private void takeBasket() {
            for (int t = 0; t < THINGS; t++) {
                stock[t] -= basket[t];
                had[t] += basket[t];
                basket[t] = 0;
            }
        }
    }

    /** The last ACTS: how all was ahead of each of them. */
    private static final class Past {
        private final State[] states = new State[ACTS];
        private int next;
        private int kept;

        private Past() {
            for (int i = 0; i < ACTS; i++) {
                states[i] = new State();
            }
        }

        private void keep(State state) {
            states[next].become(state);
            next = (next + 1) % ACTS;
            kept = Math.min(ACTS, kept + 1);
        }

        private void giveBack(State state) {
            next = (next + ACTS - 1) % ACTS;
            kept--;
            state.become(states[next]);
        }

        private void clear() {
            kept = 0;
        }
    }

    /** All that an IMAGE holds. */
    private static final class World {
        private Shop shop = new Shop();
        private final State state = new State();
        private int inForce = NONE;
        private int x;
        private final int[] toldThing = new int[PRICES];
        private final int[] toldDay = new int[PRICES];
        private final int[] toldLooks = new int[PRICES];
        private final int[] toldDear = new int[PRICES];
        private int toldCount;

        private void open(Shop told) {
            shop = told;
            state.begin(told);
            toldCount = 0;
        }

        private void become(World other) {
            shop = other.shop;
            state.become(other.state);
            inForce = other.inForce;
            x = other.x;
            System.arraycopy(other.toldThing, 0, toldThing, 0, PRICES);
            System.arraycopy(other.toldDay, 0, toldDay, 0, PRICES);
            System.arraycopy(other.toldLooks, 0, toldLooks, 0, PRICES);
            System.arraycopy(other.toldDear, 0, toldDear, 0, PRICES);
            toldCount = other.toldCount;
        }

        private void tell(int thing, int onDay, int looked, int dearness) {
            toldThing[toldCount] = thing;
            toldDay[toldCount] = onDay;
            toldLooks[toldCount] = looked;
            toldDear[toldCount] = dearness;
            toldCount++;
        }
    }

    /** How dear things are, and what baskets of them COST. */
    private static final class Till {
        private final World now;
        private final Rule[] rules = new Rule[RULES];
        private int ruleCount;
        private final long[] words = new long[VALUE_WORDS];
        // In the COST that was reckoned last.
        private int carriage;

        private Till(World now) {
            this.now = now;
            for (int r = 0; r < RULES; r++) {
                rules[r] = new Rule();
            }
        }

        private int dearness(State state, int rule, int thing, int onDay, int looked) {
            Shop shop = now.shop;
            int percent = shop.percentOn(onDay);
            if (rule < 0 || rule >= ruleCount) {
                int told = shop.price[thing];
                return Math.max(1, told - told * percent / 100);
            }
            words[THING] = thing;
            words[TOLD] = shop.price[thing];
            words[SALE] = percent;
            words[DAY] = onDay;
            words[LOOKS] = looked;
            words[STOCK] = state.stock[thing];
            words[BOUGHT] = state.had[thing];
            words[WORTH] = shop.worth[thing];
            return rules[rule].priceBy(words);
        }

        private int dearOn(int thing, int onDay) {
            return dearness(now.state, now.inForce, thing, onDay, now.state.looks[thing]);
        }

        private int dearToday(int thing) {
            return dearOn(thing, now.state.day);
        }

        private int basketSum() {
            int sum = 0;
            for (int t = 0; t < now.shop.things; t++) {
                if (now.state.basket[t] > 0) {
                    sum += now.state.basket[t] * dearOn(t, now.state.day);
                }
            }
            return sum;
        }

        private int basketCost() {
            State state = now.state;
            return reckon(state.size(), basketSum(), state.laid, state.laidCount, now.shop.free);
        }

        /** COST of so many things of a sum, with a row of CODES, as if it were free from a sum on. */
        private int reckon(int size, int sum, int[] row, int length, int free) {
            carriage = 0;
            if (size < 1) {
                return 0;
            }
            Shop shop = now.shop;
            int left = sum;
            boolean posted = false;
            for (int i = 0; i < length; i++) {
                int code = row[i];
                if (left >= shop.codeFrom[code]) {
                    int much = shop.codeMuch[code];
                    switch (shop.codeKind[code]) {
                        case PERCENT: left -= left * much / 100; break;
                        case OFF: left = Math.max(0, left - much); break;
                        default: posted = true; break;
                    }
                }
            }
            carriage = left < free && !posted ? shop.carriage : 0;
            return left + carriage;
        }

        /** COST without CODES: nothing is dear below 1, so a sum of 0 is a basket of nothing. */
        private int plainCost(int sum) {
            return sum > 0 && sum < now.shop.free ? sum + now.shop.carriage : sum;
        }

        /** What comes back for a thing of the LAST one, of which so many of each are left behind it. */
        private int comesBack(int thing, int[] left, int paid) {
            State state = now.state;
            if (!now.shop.again) {
                return state.lastDear[thing];
            }
            int size = 0;
            int sum = 0;
            for (int t = 0; t < THINGS; t++) {
                size += left[t];
                sum += left[t] * state.lastDear[t];
            }
            return Math.max(0, paid - reckon(size, sum, state.lastLaid, state.lastLaidCount, now.shop.free));
        }
    }

    /** The least value that was offered, and the row that it is of: of several the first offered. */
    private static final class Best {
        private boolean found;
        private int value;
        private int length;
        private final int[] row = new int[THINGS];

        private void clear() {
            found = false;
            value = 0;
            length = 0;
        }

        private void offer(int offered, int[] from, int size) {
            if (!found || offered < value) {
                take(offered, from, size);
            }
        }

        private void take(int offered, int[] from, int size) {
            found = true;
            value = offered;
            length = size;
            System.arraycopy(from, 0, row, 0, size);
        }

        private int answer(int what) {
            if (what == 0) {
                return value;
            }
            return what <= length ? row[what - 1] : NO_SUCH;
        }

        private int total() {
            int total = 0;
            for (int i = 0; i < length; i++) {
                total += row[i];
            }
            return total;
        }

        private int greatest() {
            int greatest = NONE;
            for (int i = 0; i < length; i++) {
                greatest = Math.max(greatest, row[i]);
            }
            return greatest;
        }
    }

    /** What is asked of part III of the document; by it nothing of the world changes. */
    private static final class Planner {
        private final World now;
        private final Till till;
        private final Best best = new Best();
        private final int[] row = new int[THINGS];
        private final int[] dear = new int[THINGS];
        private final int[] sums = new int[WANTS];
        private final int[] ahead = new int[WANTS * (DAYS_AHEAD + 1)];
        private final int[] left = new int[THINGS];
        private final int[] ruledBy = new int[RULES + 1];
        private final int[] alike = new int[RULES + 1];
        private final State lived = new State();
        private int basketSum;
        private int basketSize;
        private int bestFree;
        private int bestGain;
        private int receipts;
        private int inAll;
        private int ruledCount;
        private int livedPaid;
        private int livedThings;

        private Planner(World now, Till till) {
            this.now = now;
            this.till = till;
        }

        private void priceAll(int onDay) {
            basketSum = 0;
            for (int t = 0; t < now.shop.things; t++) {
                dear[t] = till.dearOn(t, onDay);
                basketSum += now.state.basket[t] * dear[t];
            }
            basketSize = now.state.size();
        }

        private void seekOrder() {
            best.clear();
            priceAll(now.state.day);
            orderBehind(0);
        }

        private void orderBehind(int length) {
            best.offer(till.reckon(basketSize, basketSum, row, length, now.shop.free), row, length);
            if (length >= CODES) {
                return;
            }
            for (int c = 0; c < now.shop.codes; c++) {
                if (!now.state.isUsed(c) && now.shop.goesWith(c, row, length)) {
                    row[length] = c;
                    orderBehind(length + 1);
                }
            }
        }

        /** The best FILL, at the prices that priceAll found, if it were free from a sum on. */
        private void seekFill(int free) {
            best.clear();
            for (int length = 0; length <= FILL_ROW; length++) {
                boolean more = firstRow(length);
                for (int i = 0; more && i < MOST_ROWS; i++) {
                    if (canFill(length)) {
                        best.offer(filledCost(free, length) - worthOf(row, length), row, length);
                    }
                    more = nextRow(length);
                }
            }
        }

        private boolean firstRow(int length) {
            Arrays.fill(row, 0);
            return length == 0 || now.shop.things > 0;
        }

        /** The next row of THINGS that does not fall. */
        private boolean nextRow(int length) {
            for (int i = length - 1; i >= 0; i--) {
                int thing = row[i] + 1;
                if (thing < now.shop.things) {
                    for (int j = i; j < length; j++) {
                        row[j] = thing;
                    }
                    return true;
                }
            }
            return false;
        }

        private boolean canFill(int length) {
            int same = 0;
            for (int i = 0; i < length; i++) {
                int thing = row[i];
                same = i > 0 && row[i - 1] == thing ? same + 1 : 1;
                if (now.state.basket[thing] + same > now.state.stock[thing]) {
                    return false;
                }
            }
            return basketSize + length <= IN_BASKET;
        }

        private int filledCost(int free, int length) {
            return till.reckon(basketSize + length, basketSum + rowSum(length),
                now.state.laid, now.state.laidCount, free);
        }

        private int rowSum(int length) {
            int sum = 0;
            for (int i = 0; i < length; i++) {
                sum += dear[row[i]];
            }
            return sum;
        }

        private int worthOf(int[] things, int length) {
            int worth = 0;
            for (int i = 0; i < length; i++) {
                worth += now.shop.worth[things[i]];
            }
            return worth;
        }

        private void seekFreedom() {
            priceAll(now.state.day);
            bestFree = NONE;
            for (int free = 0; free <= LAST_FREE; free += FREE_STEP) {
                seekFill(free);
                int worth = worthOf(best.row, best.length);
                int gain = best.value + worth - worth / 2;
                if (bestFree < 0 || gain > bestGain) {
                    bestFree = free;
                    bestGain = gain;
                }
            }
        }

        private void seekBaskets() {
            best.clear();
            priceAll(now.state.day);
            Arrays.fill(sums, 0);
            basketsFrom(0, 0);
        }

        private void basketsFrom(int want, int count) {
            if (want >= now.shop.wants) {
                best.offer(sumsCost(count), row, want);
                return;
            }
            int dearness = dear[now.shop.wantThing[want]];
            for (int b = 0; b <= count && b < WANTS; b++) {
                row[want] = b;
                sums[b] += dearness;
                basketsFrom(want + 1, Math.max(count, b + 1));
                sums[b] -= dearness;
            }
        }

        private int sumsCost(int count) {
            int all = 0;
            for (int i = 0; i < count; i++) {
                all += till.plainCost(sums[i]);
            }
            return all;
        }

        private void seekDays() {
            best.clear();
            Arrays.fill(sums, 0);
            for (int w = 0; w < now.shop.wants; w++) {
                for (int d = 0; d <= DAYS_AHEAD; d++) {
                    ahead[w * (DAYS_AHEAD + 1) + d] = till.dearOn(now.shop.wantThing[w], now.state.day + d);
                }
            }
            daysFrom(0, 0, 0);
        }

        private void daysFrom(int want, int sum, int costs) {
            // Things only add to the sum: no row from here on could cost less than it.
            if (best.found && sum >= best.value) {
                return;
            }
            if (want >= now.shop.wants) {
                best.offer(costs, row, want);
                return;
            }
            int latest = Math.max(0, Math.min(DAYS_AHEAD, now.shop.wantDay[want] - now.state.day));
            for (int d = 0; d <= latest; d++) {
                int dearness = ahead[want * (DAYS_AHEAD + 1) + d];
                int without = till.plainCost(sums[d]);
                row[want] = d;
                sums[d] += dearness;
                daysFrom(want + 1, sum + dearness, costs - without + till.plainCost(sums[d]));
                sums[d] -= dearness;
            }
        }

        private void seekReturn() {
            best.clear();
            System.arraycopy(now.state.last, 0, left, 0, THINGS);
            returnFrom(0, now.state.lastPaid, 0, 0);
        }

        /** All rows from a THING on; they come in the document's order, but for the fewest ahead. */
        private void returnFrom(int thing, int paid, int gain, int count) {
            if (thing >= now.shop.things) {
                if (!best.found || -gain < best.value || -gain == best.value && count < best.total()) {
                    best.take(-gain, row, thing);
                }
                return;
            }
            int paidYet = paid;
            int gainYet = gain;
            for (int n = 0; n <= now.state.last[thing]; n++) {
                if (n > 0) {
                    left[thing]--;
                    int back = till.comesBack(thing, left, paidYet);
                    paidYet -= back;
                    gainYet += back - now.shop.worth[thing];
                }
                row[thing] = n;
                returnFrom(thing + 1, paidYet, gainYet, count + n);
            }
            left[thing] = now.state.last[thing];
        }

        private void seekReceipt(int sum, int onDay) {
            best.clear();
            priceAll(onDay);
            receipts = 0;
            inAll = (1 << THINGS) - 1;
            for (int length = 1; length <= RECEIPT_ROW; length++) {
                boolean more = firstRow(length);
                for (int i = 0; more && i < MOST_ROWS; i++) {
                    if (till.plainCost(rowSum(length)) == sum) {
                        best.offer(sum, row, length);
                        receipts++;
                        inAll &= rowBits(length);
                    }
                    more = nextRow(length);
                }
            }
            if (receipts == 0) {
                inAll = 0;
            }
        }

        private int rowBits(int length) {
            int bits = 0;
            for (int i = 0; i < length; i++) {
                bits |= 1 << row[i];
            }
            return bits;
        }

        private void seekRuled() {
            ruledCount = 0;
            for (int r = NONE; r < till.ruleCount; r++) {
                if (isSo(r)) {
                    ruledBy[ruledCount] = r;
                    ruledCount++;
                }
            }
        }

        private boolean isSo(int rule) {
            for (int p = 0; p < now.toldCount; p++) {
                int dearness = till.dearness(now.state, rule, now.toldThing[p], now.toldDay[p], now.toldLooks[p]);
                if (dearness != now.toldDear[p]) {
                    return false;
                }
            }
            return true;
        }

        /** By which LOOKS those that seekRuled found part best. */
        private void seekProbe(int thing, int onDay) {
            best.clear();
            for (int looked = 0; looked <= PROBE_LOOKS; looked++) {
                for (int i = 0; i < ruledCount; i++) {
                    alike[i] = till.dearness(now.state, ruledBy[i], thing, onDay, looked);
                }
                row[0] = looked;
                best.offer(mostAlike(), row, 1);
            }
        }

        private int mostAlike() {
            int most = 0;
            for (int i = 0; i < ruledCount; i++) {
                int same = 0;
                for (int j = 0; j < ruledCount; j++) {
                    if (alike[j] == alike[i]) {
                        same++;
                    }
                }
                most = Math.max(most, same);
            }
            return most;
        }

        private void seekWait(int thing) {
            best.clear();
            for (int d = 0; d <= WAIT_AHEAD; d++) {
                row[0] = now.state.day + d;
                best.offer(till.dearOn(thing, row[0]), row, 1);
            }
        }

        /** YEARS: each of the times begins from now, but with the DRAWS that come next. */
        private void live(int times, int days) {
            livedPaid = 0;
            livedThings = 0;
            int things = now.shop.things;
            if (things < 1) {
                return;
            }
            long x = now.x;
            for (int m = 0; m < times; m++) {
                lived.become(now.state);
                for (int n = 0; n < days; n++) {
                    x = (x * 1103515245L + 12345L) % 2147483648L;
                    liveDay((int) (x / 65536 % (things + 1)));
                }
            }
        }

        private void liveDay(int drawn) {
            if (drawn >= now.shop.things) {
                liveBuy();
            } else {
                lived.lookAt(drawn);
                if (lived.canPut(drawn)) {
                    lived.basket[drawn]++;
                }
            }
            lived.day = Math.min(LAST_DAY, lived.day + 1);
        }

        private void liveBuy() {
            int sum = 0;
            for (int t = 0; t < now.shop.things; t++) {
                if (lived.basket[t] > 0) {
                    sum += lived.basket[t] * till.dearness(lived, now.inForce, t, lived.day, lived.looks[t]);
                }
            }
            livedPaid += till.plainCost(sum);
            livedThings += lived.size();
            lived.takeBasket();
        }
    }
}
