import java.util.function.Supplier;

/** The edges of prices, COST and ACTS, of what is told of them, of UNDO and of IMAGES. */
final class EdgesOfActs {
    static final int LEAST = Integer.MIN_VALUE;
    static final int MOST = Integer.MAX_VALUE;
    // Three THINGS, three WANTS, half price on DAYS 2 and 3; percent and off do not go together.
    static final String BIG = "shop 490 4000;thing 3610 4000 3;thing 399 50 5;thing 1000 900 2;"
        + "want 0 2;want 2 9;want 1 0;sale 2 3 50;percent 10 3000;off 500 3500;post 100;alone 0 1;again";

    private final Edges e;

    EdgesOfActs(Edges e) {
        this.e = e;
    }

    void all() {
        calls();
        dearness();
        costSteps();
        carriage();
        promise1();
        promise4();
        promise5();
        promise6();
        promises7To9();
        promises10And11();
        putAndDrop();
        layAndLift();
        look();
        buy();
        sendBack();
        sendBackByAgain();
        day();
        undo();
        promises33And35();
        images();
        back();
    }

    /** A shop in which all has been done that can be, with a TAPE that is not empty. */
    static FortyBasket lived() {
        FortyBasket x = Due.shopped(BIG);
        Due.rule(x, "price told + looks * 2");
        Due.rule(x, "price told");
        x.put(0);
        x.put(1);
        x.lay(1);
        x.buy();
        x.look(0);
        x.put(2);
        x.put(1);
        x.lay(2);
        x.day();
        x.told(0, 0, 0, 3610);
        x.force(0);
        x.seed(77);
        x.image(0);
        x.sendBack(1);
        return Due.tape(x, "shop 7 8;thing 9 1 2");
    }

    static void days(FortyBasket x, int n) {
        for (int i = 0; i < n; i++) {
            x.day();
        }
    }

    static void puts(FortyBasket x, int thing, int n) {
        for (int i = 0; i < n; i++) {
            x.put(thing);
        }
    }

    private static void lays(FortyBasket x, int... codes) {
        for (int code : codes) {
            x.lay(code);
        }
    }

    private void calls() {
        e.of("What it is", "An object is used for at most 512 calls after it has been made;");
        FortyBasket x = new FortyBasket();
        x.feed(0x73686f70, 0x20302030, 0x3b746869, 0x6e672037, 0x20302030);
        x.shop();
        days(x, 509);
        e.is("the 512th call", x.count(7), 509);
    }

    // ---- prices and COST

    private void priced(String shop, int day, String rule, int due) {
        FortyBasket x = Due.shopped(shop);
        if (!rule.isEmpty()) {
            Due.rule(x, rule);
            x.force(0);
        }
        e.is(shop + " by " + rule + " on " + day, x.dear(0, day, 0), due);
    }

    private void dearness() {
        e.of(Edges.TERMS, "the SUM of its first CLAUSE without a TEST, or whose TEST holds (0 without), held to 1 to 9999;");
        String shop = "shop 0 0;thing 100 0 9";
        int[] sums = {0, 1, 2, 9998, 9999, 10000, 99999};
        int[] held = {1, 1, 2, 9998, 9999, 9999, 9999};
        for (int i = 0; i < sums.length; i++) {
            priced(shop, 0, "price " + sums[i], held[i]);
        }
        priced(shop, 0, "price 0-1", 1);
        priced(shop, 0, "price 0-99999", 1);
        priced(shop, 0, "price 5 if 1=2", 1);
        priced(shop, 0, "price 5 if 1=2;price 6 if 1=2", 1);
        priced(shop, 0, "price 5 if 1=2;price 6 if 1=1;price 7", 6);
        priced(shop, 0, "price 5;price 6", 5);
        priced(shop, 0, "price 5;price 6 if 1=1", 5);

        e.of(Edges.TERMS, "without a RULE its PRICE less the SALE's PERCENT of it, downwards (what is taken off), 1 at least.");
        priced("shop 0 0;thing 1 0 0;sale 3 3 90", 3, "", 1);
        priced("shop 0 0;thing 2 0 0;sale 3 3 90", 3, "", 1);
        priced("shop 0 0;thing 10 0 0;sale 3 3 90", 3, "", 1);
        priced("shop 0 0;thing 11 0 0;sale 3 3 90", 3, "", 2);
        priced("shop 0 0;thing 99 0 0;sale 3 3 1", 3, "", 99);
        priced("shop 0 0;thing 100 0 0;sale 3 3 1", 3, "", 99);
        priced("shop 0 0;thing 5000 0 0;sale 3 3 90", 3, "", 500);
        priced("shop 0 0;thing 5000 0 0;sale 3 3 90", 2, "", 5000);
        priced("shop 0 0;thing 5000 0 0;sale 3 3 90", 4, "", 5000);
    }

    /** COST of so many of THING 0 with CODES in an order. */
    private void costs(String shop, int things, int due, int... codes) {
        FortyBasket x = Due.shopped(shop);
        puts(x, 0, things);
        lays(x, codes);
        e.is(shop + " of " + things + " with " + java.util.Arrays.toString(codes), x.cost(0), due);
    }

    private void costSteps() {
        e.of(Edges.TERMS, "one CODE behind the other, if the sum then is FROM or more:");
        costs("shop 0 0;thing 99 0 1;off 10 100", 1, 99, 0);
        costs("shop 0 0;thing 100 0 1;off 10 100", 1, 90, 0);
        costs("shop 0 0;thing 101 0 1;off 10 100", 1, 91, 0);
        costs("shop 0 0;thing 99 0 1;percent 10 100", 1, 99, 0);
        costs("shop 0 0;thing 100 0 1;percent 10 100", 1, 90, 0);
        costs("shop 7 999;thing 99 0 1;post 100", 1, 106, 0);
        costs("shop 7 999;thing 100 0 1;post 100", 1, 100, 0);
        costs("shop 0 0;thing 100 0 1;off 1 0;off 10 100", 1, 99, 0, 1);
        costs("shop 0 0;thing 100 0 1;off 1 0;off 10 100", 1, 89, 1, 0);

        e.of(Edges.TERMS, "a percent takes off so much of it, downwards, an off its pence (0 is left at least), a post the CARRIAGE; others do nothing.");
        costs("shop 0 0;thing 109 0 1;percent 10 0", 1, 99, 0);
        costs("shop 0 0;thing 110 0 1;percent 10 0", 1, 99, 0);
        costs("shop 0 0;thing 1 0 1;percent 90 0", 1, 1, 0);
        costs("shop 0 0;thing 99 0 9;percent 1 0", 1, 99, 0);
        costs("shop 0 0;thing 99 0 9;percent 1 0", 2, 197, 0);
        costs("shop 0 0;thing 5000 0 9;percent 90 0", 9, 4500, 0);
        costs("shop 0 0;thing 100 0 1;off 99 0", 1, 1, 0);
        costs("shop 0 0;thing 100 0 1;off 100 0", 1, 0, 0);
        costs("shop 0 0;thing 100 0 1;off 101 0", 1, 0, 0);
        costs("shop 0 0;thing 100 0 1;off 2000 0;off 1 0", 1, 0, 0, 1);
        costs("shop 0 0;thing 100 0 1;off 100 0;off 5 1", 1, 0, 0, 1);
        costs("shop 9 999;thing 100 0 1;post 0", 1, 100, 0);
        costs("shop 9 999;thing 100 0 1;post 101", 1, 109, 0);
    }

    private void carriage() {
        e.of(Edges.TERMS, "Is the sum then below FREE, CARRIAGE is added, but not behind a post that took it off; of nothing at all it is 0.");
        costs("shop 9 100;thing 99 0 1", 1, 108);
        costs("shop 9 100;thing 100 0 1", 1, 100);
        costs("shop 9 100;thing 101 0 1", 1, 101);
        costs("shop 9 100;thing 101 0 1;off 1 0", 1, 100, 0);
        costs("shop 9 100;thing 101 0 1;off 2 0", 1, 108, 0);
        costs("shop 9 100;thing 99 0 1;post 99;off 99 0", 1, 0, 0, 1);
        costs("shop 9 100;thing 99 0 1;off 99 0", 1, 9, 0);
        costs("shop 9 100;thing 99 0 1;off 99 0;post 1", 1, 9, 0, 1);
        costs("shop 9 0;thing 1 0 1;off 1 0", 1, 0, 0);
        costs("shop 9 1;thing 1 0 1;off 1 0", 1, 9, 0);
        costs("shop 9 9999;thing 1 0 1", 0, 0);
        costs("shop 9 9999;thing 1 0 1;post 0", 0, 0, 0);
        costs("shop 999 9999;thing 5000 0 2", 1, 5999);
        costs("shop 999 9999;thing 5000 0 2", 2, 10000);
    }

    // ---- promises 1 to 11

    private void promise1() {
        e.of(1, "No SHOP, no RULES, none IN FORCE.");
        FortyBasket x = new FortyBasket();
        e.row(x, "count", 0, 0, 0, 0, 0, 0, -1, 0, 0, 0, 0, 0, 0, 0, 0);
        e.call(x, -2, "force", 0);
        e.call(x, -1, "force", -1);
        e.call(x, -1, "cost", 0);
        e.is("its first rule", Due.rule(x, "price 1"), 0);
        e.same("two objects", Seen.of(new FortyBasket()), Seen.of(new FortyBasket()));
        FortyBasket y = new FortyBasket();
        lived();
        e.same("another object", Seen.of(y), Seen.of(new FortyBasket()));
    }

    private void promise4() {
        e.of(4, "The TAPE, which is empty then, is the SHOP in place of the one there was (DAY 0, nothing in the basket, laid, bought, told of PRICES, to be UNDONE; the RULE IN FORCE and x stay): how many THINGS;");
        FortyBasket x = lived();
        e.call(x, 1, "shop");
        e.row(x, "count", 7, 8, 1, 0, 0, 2, 0, 0, 0, 0, 0, 0, 0, 77, 0);
        e.call(x, -1, "undo");
        e.call(x, -1, "sendBack", 0);
        e.call(x, 1, "count", 2);
        int[] thing = {9, 2, 0, 0, 0, 0, 9, 1};
        for (int what = 0; what < 8; what++) {
            e.call(x, thing[what], "thing", 0, what);
        }
        e.call(x, -1, "thing", 1, 0);
        e.call(x, -1, "want", 0, 0);
        e.call(x, -2, "code", 0, 0);
        e.call(x, 0, "sent", 0);
        e.call(x, 1, "back", 0);
        e.call(x, 3, "count", 2);
        FortyBasket y = new FortyBasket();
        e.is("no things", Due.shop(y, "shop 0 0"), 0);
        e.is("eight things", Due.shop(y, "shop 0 0" + ";thing 1 0 0".repeat(8)), 8);
        // Used up in the one shop is not used up in the next.
        FortyBasket z = Due.shopped("shop 0 0;thing 5 0 1;off 1 0;again");
        z.put(0);
        z.lay(0);
        z.buy();
        Due.shop(z, "shop 0 0;thing 5 0 1;off 1 0");
        e.call(z, 0, "code", 0, 4);
        e.call(z, 1, "lay", 0);
        e.call(z, 1, "put", 0);
        e.call(z, 4, "buy");
        e.call(z, 5, "sendBack", 0);

        e.of(4, "-2 - its FAULT, and all stays.");
        for (String text : new String[] {"", "x", "shop 0 0;shop 0 0", "shop 0 0;thing 1 1 1;thing 0", "shop 1000 0"}) {
            FortyBasket v = lived();
            v.end(0);
            e.is("a fault of " + text, Due.shop(v, text) < -2 ? 1 : 0, 1);
            FortyBasket w = lived();
            w.end(0);
            e.alike("a fault of " + text, v, w);
        }
        FortyBasket u = new FortyBasket();
        e.is("the first text", Due.shop(u, "shop 0 0;"), Due.fault(9, 0));
        e.call(u, -1, "cost", 0);
        e.call(u, 0, "count", 14);
    }

    private static FortyBasket sixRules() {
        FortyBasket x = lived();
        x.end(0);
        for (int r = 2; r < 6; r++) {
            Due.rule(x, "price " + r);
        }
        return Due.tape(x, "shop 7 8;thing 9 1 2");
    }

    private void promise5() {
        e.of(5, "The TAPE, which is empty then, is a RULE: its number; -2 - its FAULT; NONE, and nothing happens: there are 6.");
        FortyBasket x = Due.shopped("shop 0 0;thing 5 0 0");
        for (int r = 0; r < 6; r++) {
            e.is("a fault ahead of rule " + r, Due.rule(x, "price 77;price"), Due.fault(14, 0));
            e.call(x, 0, "count", 14);
            e.call(x, r, "count", 5);
            e.call(x, -2, "force", r);
            e.is("rule " + r, Due.rule(x, "price 1" + r), r);
            e.call(x, 0, "count", 14);
            e.call(x, r - 1, "force", r);
            e.call(x, 10 + r, "thing", 0, 0);
        }
        // What a text with a FAULT told is gone: its CLAUSES, however many, and its VALUES.
        FortyBasket z = Due.shopped("shop 0 0;thing 5 0 0");
        for (int i = 0; i < 9; i++) {
            e.is("twelve clauses and a fault", Due.rule(z, "price 7+7 if 1=1;".repeat(12)), Due.fault(12 * 17, 0));
        }
        e.is("a rule behind faults", Due.rule(z, "price 2*3 if looks=1;price 4"), 0);
        z.force(0);
        e.call(z, 4, "dear", 0, 0, 0);
        e.call(z, 6, "dear", 0, 0, 1);
        e.refused(EdgesOfActs::sixRules, -1, "rule");
        FortyBasket y = sixRules();
        y.rule();
        e.call(y, 20, "count", 14);
        e.call(y, 6, "count", 5);
        y.end(0);
        e.is("a seventh with a fault", Due.rule(y, "x"), -1);
        e.call(y, 1, "count", 14);
    }

    private void promise6() {
        e.of(6, "A RULE is IN FORCE (NONE: none): which was; -2, and nothing happens, if there is none such.");
        FortyBasket x = lived();
        e.call(x, 0, "force", 1);
        e.call(x, 1, "force", 1);
        e.call(x, 1, "force", -1);
        e.call(x, -1, "force", -1);
        e.call(x, -1, "force", 0);
        e.call(x, 0, "count", 6);
        for (int rule : new int[] {2, 5, 6, -2, LEAST, MOST}) {
            e.refused(EdgesOfActs::lived, -2, "force", rule);
        }
        e.refused(FortyBasket::new, -2, "force", 0);
        e.refused(FortyBasket::new, -1, "force", -1);
    }

    /** Calls of one number, of which some have no answer. */
    private void refusedOf(Supplier<FortyBasket> made, int due, String name, int... args) {
        for (int arg : args) {
            e.refused(made, due, name, arg);
        }
    }

    private void promises7To9() {
        e.of(7, "NONE without these.");
        for (int[] args : new int[][] {{-1, 0}, {3, 0}, {3, 7}, {8, 0}, {LEAST, 0}, {MOST, 0}, {0, -1}, {0, 8}, {2, 8}, {0, LEAST}, {0, MOST}}) {
            e.refused(EdgesOfActs::lived, -1, "thing", args);
        }
        for (int what = 0; what < 8; what++) {
            e.refused(FortyBasket::new, -1, "thing", 0, what);
        }
        // THING 0, of which one is had and one less in stock; the last one.
        FortyBasket x = lived();
        int[][] due = {{3612, 2, 0, 1, 1, 1, 3610, 4000}, {399, 5, 1, 0, 0, 0, 399, 50}, {1000, 2, 1, 0, 0, 0, 1000, 900}};
        for (int t = 0; t < 3; t++) {
            for (int what = 0; what < 8; what++) {
                e.call(x, due[t][what], "thing", t, what);
            }
        }

        e.of(8, "1: how much (post: 0), 2: FROM, 3: the place where it is laid (0 and on; NONE), 4: 1 if used up, else 0, 5: CODES it is alone with, as bits. -2 without these.");
        int[][] codes = {{0, 10, 3000, -1, 0, 2}, {1, 500, 3500, -1, 1, 1}, {2, 0, 100, 0, 0, 0}};
        for (int c = 0; c < 3; c++) {
            for (int what = 0; what < 6; what++) {
                e.call(x, codes[c][what], "code", c, what);
            }
        }
        FortyBasket y = Due.shopped("shop 0 0" + ";post 0".repeat(5) + ";alone 0 4;alone 4 1;alone 2 4;alone 3 4;alone 4 3");
        e.call(y, 15, "code", 4, 5);
        e.call(y, 16, "code", 0, 5);
        lays(y, 3, 0, 2, 1);
        for (int c = 0; c < 5; c++) {
            e.call(y, new int[] {1, 3, 2, 0, -1}[c], "code", c, 3);
        }
        for (int[] args : new int[][] {{-1, 0}, {3, 0}, {3, 5}, {5, 0}, {LEAST, 0}, {MOST, 0}, {0, -1}, {0, 6}, {2, 6}, {0, LEAST}, {0, MOST}}) {
            e.refused(EdgesOfActs::lived, -2, "code", args);
        }
        for (int what = 0; what < 6; what++) {
            e.refused(FortyBasket::new, -2, "code", 0, what);
        }

        e.of(9, "NONE without these.");
        for (int[] args : new int[][] {{-1, 0}, {3, 0}, {3, 1}, {6, 0}, {LEAST, 0}, {MOST, 0}, {0, -1}, {0, 2}, {2, 2}, {0, LEAST}, {0, MOST}}) {
            e.refused(EdgesOfActs::lived, -1, "want", args);
        }
        e.refused(FortyBasket::new, -1, "want", 0, 0);
        int[][] wants = {{0, 2}, {2, 9}, {1, 0}};
        for (int w = 0; w < 3; w++) {
            e.call(x, wants[w][0], "want", w, 0);
            e.call(x, wants[w][1], "want", w, 1);
        }
    }

    private void promises10And11() {
        e.of(10, "How dear a THING is on a DAY (0 to 999) of so many LOOKS (0 to 99); NONE without these.");
        FortyBasket x = lived();
        e.call(x, 3610, "dear", 0, 0, 0);
        e.call(x, 3808, "dear", 0, 999, 99);
        e.call(x, 1198, "dear", 2, 999, 99);
        for (int[] args : new int[][] {{-1, 0, 0}, {3, 0, 0}, {LEAST, 0, 0}, {MOST, 0, 0}, {0, -1, 0}, {0, 1000, 0}, {0, LEAST, 0}, {0, MOST, 0},
            {0, 0, -1}, {0, 0, 100}, {0, 0, LEAST}, {0, 0, MOST}}) {
            e.refused(EdgesOfActs::lived, -1, "dear", args);
        }
        e.refused(FortyBasket::new, -1, "dear", 0, 0, 0);

        e.of(11, "NONE for others, or without a SHOP.");
        refusedOf(EdgesOfActs::lived, -1, "cost", -1, 2, LEAST, MOST);
        refusedOf(FortyBasket::new, -1, "cost", 0, 1, 2);
        // 1000 + 399, carried off by the post.
        e.call(x, 1399, "cost", 0);
        e.call(x, 0, "cost", 1);
        x.lift(2);
        e.call(x, 1889, "cost", 0);
        e.call(x, 490, "cost", 1);
        FortyBasket y = Due.shopped(BIG);
        e.call(y, 0, "cost", 0);
        e.call(y, 0, "cost", 1);
        y.put(1);
        e.call(y, 490, "cost", 1);
        y.drop(1);
        e.call(y, 0, "cost", 1);
    }

    // ---- ACTS

    private static FortyBasket eleven() {
        FortyBasket x = Due.shopped("shop 0 0;thing 1 0 9;thing 1 0 2;thing 1 0 0;thing 1 0 1");
        puts(x, 0, 9);
        puts(x, 1, 2);
        return x;
    }

    private static FortyBasket twelve() {
        FortyBasket x = Due.shopped("shop 0 0;thing 1 0 9;thing 1 0 9;thing 1 0 1");
        puts(x, 0, 6);
        puts(x, 1, 6);
        return x;
    }

    private void putAndDrop() {
        e.of(Edges.TERMS, "PUT (a THING into the basket, if there are fewer of it than its STOCK, and fewer than 12 of all)");
        FortyBasket x = eleven();
        e.call(x, 11, "count", 9);
        e.call(x, -1, "put", 0);
        e.call(x, -1, "put", 1);
        e.call(x, -1, "put", 2);
        e.call(x, 1, "put", 3);
        e.call(x, 12, "count", 9);
        FortyBasket y = twelve();
        e.call(y, 12, "count", 9);
        e.call(y, -1, "put", 2);
        e.call(y, 5, "drop", 0);
        e.call(y, 1, "put", 2);
        e.call(y, -1, "put", 0);
        // STOCK is less by what was bought.
        FortyBasket z = Due.shopped("shop 0 0;thing 1 0 2");
        e.call(z, 1, "put", 0);
        z.buy();
        e.call(z, 1, "put", 0);
        e.call(z, -1, "put", 0);
        z.sendBack(0);
        e.call(z, 2, "put", 0);
        e.call(z, -1, "put", 0);

        e.of(12, "NONE, and nothing happens, without these.");
        refusedOf(EdgesOfActs::eleven, -1, "put", 0, 1, 2, 4, -1, LEAST, MOST);
        refusedOf(EdgesOfActs::twelve, -1, "put", 0, 1, 2);
        refusedOf(EdgesOfActs::lived, -1, "put", 3, 8, -1);
        refusedOf(FortyBasket::new, -1, "put", 0, -1);

        e.of(Edges.TERMS, "DROP (one out of it)");
        FortyBasket v = twelve();
        for (int left = 5; left >= 0; left--) {
            e.call(v, left, "drop", 1);
        }
        e.call(v, -1, "drop", 1);
        e.call(v, 6, "thing", 0, 2);
        e.of(13, "NONE, and nothing happens, without these.");
        refusedOf(EdgesOfActs::lived, -1, "drop", 0, 3, 8, -1, LEAST, MOST);
        refusedOf(EdgesOfActs::eleven, -1, "drop", 2, 3);
        refusedOf(FortyBasket::new, -1, "drop", 0, -1);
    }

    private static FortyBasket laid() {
        FortyBasket x = Due.shopped("shop 0 0;thing 9 0 9" + ";post 0".repeat(5) + ";alone 1 3");
        x.put(0);
        x.lay(4);
        x.buy();
        x.lay(1);
        x.lay(0);
        return x;
    }

    private void layAndLift() {
        e.of(Edges.TERMS, "LAY (a CODE, as the last of those laid: not used up, not laid yet, and alone with none that is)");
        FortyBasket x = laid();
        e.call(x, -1, "lay", 4);
        e.call(x, -1, "lay", 1);
        e.call(x, -1, "lay", 3);
        e.call(x, 3, "lay", 2);
        e.call(x, 2, "code", 2, 3);
        e.call(x, 2, "lift", 1);
        e.call(x, 3, "lay", 3);
        e.call(x, 2, "code", 3, 3);
        e.call(x, -1, "lay", 1);
        FortyBasket y = Due.shopped("shop 0 0" + ";post 0".repeat(5));
        for (int c = 4; c >= 0; c--) {
            e.call(y, 5 - c, "lay", c);
        }
        for (int c = 0; c < 5; c++) {
            e.call(y, -1, "lay", c);
            e.call(y, 4 - c, "code", c, 3);
        }
        e.of(14, "NONE, and nothing happens, without these.");
        refusedOf(EdgesOfActs::laid, -1, "lay", 0, 1, 3, 4, 5, -1, LEAST, MOST);
        refusedOf(EdgesOfActs::lived, -1, "lay", 1, 2, 3);
        refusedOf(FortyBasket::new, -1, "lay", 0, -1);

        e.of(Edges.TERMS, "LIFT (a CODE that is laid)");
        for (int first = 0; first < 5; first++) {
            FortyBasket z = Due.shopped("shop 0 0" + ";post 0".repeat(5));
            lays(z, 0, 1, 2, 3, 4);
            e.call(z, 4, "lift", first);
            e.call(z, -1, "lift", first);
            for (int c = 0; c < 5; c++) {
                e.call(z, c == first ? -1 : c < first ? c : c - 1, "code", c, 3);
            }
            e.call(z, 5, "lay", first);
            e.call(z, 4, "code", first, 3);
        }
        e.of(15, "NONE, and nothing happens, without these.");
        refusedOf(EdgesOfActs::laid, -1, "lift", 2, 3, 4, 5, -1, LEAST, MOST);
        refusedOf(EdgesOfActs::lived, -1, "lift", 0, 1, 3);
        refusedOf(FortyBasket::new, -1, "lift", 0, -1);
    }

    private void look() {
        e.of(Edges.TERMS, "LOOK (at a THING: one LOOK more, 99 at most)");
        FortyBasket x = Due.shopped("shop 0 0;thing 1 0 0;thing 1 0 0");
        Due.rule(x, "price looks+1");
        x.force(0);
        for (int i = 1; i <= 102; i++) {
            e.call(x, Math.min(i, 99) + 1, "look", 0);
            e.call(x, Math.min(i, 99), "thing", 0, 4);
        }
        e.call(x, 0, "thing", 1, 4);
        e.call(x, 2, "look", 1);
        e.of(16, "NONE, and nothing happens, without that THING.");
        refusedOf(EdgesOfActs::lived, -1, "look", 3, 8, -1, LEAST, MOST);
        refusedOf(FortyBasket::new, -1, "look", 0, -1);
    }

    private void buy() {
        e.of(Edges.TERMS, "BUY (a basket that is not empty: its COST is PAID, STOCKS are less, CODES that were laid are used up, it is empty then, none is laid; it is the LAST one bought, at what all was dear then, with these CODES)");
        FortyBasket x = Due.shopped("shop 9 100;thing 50 0 2;thing 20 0 9;off 5 0;post 0;off 1 0;sale 1 1 50");
        e.call(x, -1, "buy");
        puts(x, 0, 2);
        x.put(1);
        lays(x, 2, 0);
        e.call(x, 114, "buy");
        e.call(x, 114, "count", 8);
        e.call(x, 0, "thing", 0, 1);
        e.call(x, 8, "thing", 1, 1);
        e.call(x, 2, "thing", 0, 5);
        e.call(x, 1, "thing", 1, 5);
        e.call(x, 1, "code", 0, 4);
        e.call(x, 0, "code", 1, 4);
        e.call(x, 1, "code", 2, 4);
        e.call(x, 0, "count", 9);
        e.call(x, 0, "count", 10);
        e.call(x, -1, "buy");
        e.call(x, -1, "put", 0);
        x.day();
        e.call(x, 50, "sendBack", 0);
        x.put(1);
        x.lay(1);
        e.call(x, 10, "buy");
        // Another one is the LAST now: of the first nothing can be sent back any more.
        e.call(x, -1, "sendBack", 0);
        e.call(x, 1, "thing", 0, 3);
        e.call(x, 2, "thing", 1, 3);
        e.call(x, 1, "thing", 1, 5);
        // By a RULE the price is of the time ahead of the buying.
        FortyBasket y = Due.shopped("shop 0 0;thing 50 0 9");
        Due.rule(y, "price 100+stock*10+bought");
        y.force(0);
        puts(y, 0, 3);
        e.call(y, 570, "buy");
        e.call(y, 163, "thing", 0, 0);
        e.call(y, 190, "sendBack", 0);
        e.call(y, 190, "sendBack", 0);
        e.call(y, 190, "sendBack", 0);
        // Of a basket that comes to nothing 0 is paid.
        FortyBasket z = Due.shopped("shop 0 0;thing 50 0 9;off 50 0");
        z.put(0);
        z.lay(0);
        e.call(z, 0, "buy");
        e.call(z, 1, "thing", 0, 3);
        e.of(17, "NONE, and nothing happens, if it is empty, or without a SHOP.");
        e.refused(FortyBasket::new, -1, "buy");
        e.refused(() -> Due.shopped(BIG), -1, "buy");
        e.refused(() -> {
            FortyBasket v = lived();
            v.drop(1);
            v.drop(2);
            return v;
        }, -1, "buy");
    }

    private void sendBack() {
        e.of(Edges.TERMS, "SEND BACK (one THING of the LAST one bought, as often as there are; one has it no more, STOCK is 1 more (9 at most); what comes back: what it was dear that DAY;");
        FortyBasket x = Due.shopped("shop 9 100;thing 50 0 9;thing 20 0 9;percent 90 0;sale 1 1 10");
        x.day();
        puts(x, 0, 2);
        x.put(1);
        x.lay(0);
        // 45 + 45 + 18, less 97, and carried.
        e.call(x, 20, "buy");
        e.call(x, 7, "thing", 0, 1);
        x.day();
        e.call(x, 45, "sendBack", 0);
        e.call(x, 8, "thing", 0, 1);
        e.call(x, 1, "thing", 0, 3);
        e.call(x, 1, "thing", 0, 5);
        e.call(x, -25, "count", 8);
        e.call(x, 45, "sendBack", 0);
        e.call(x, 9, "thing", 0, 1);
        e.call(x, 0, "thing", 0, 3);
        e.call(x, -1, "sendBack", 0);
        e.call(x, 18, "sendBack", 1);
        e.call(x, -1, "sendBack", 1);
        e.call(x, -88, "count", 8);
        e.call(x, 1, "code", 0, 4);
        e.of(18, "NONE, and nothing happens, without these.");
        refusedOf(EdgesOfActs::lived, -1, "sendBack", 1, 2, 3, 8, -1, LEAST, MOST);
        refusedOf(() -> Due.shopped(BIG), -1, "sendBack", 0, 1, 2, 3, -1);
        refusedOf(FortyBasket::new, -1, "sendBack", 0, -1);
    }

    private void sendBackByAgain() {
        e.of(Edges.TERMS, "by again what is PAID for the LAST one less the COST of what is left of it, at its prices, with its CODES, 0 at least; so much less is PAID for it, and of all)");
        FortyBasket x = Due.shopped("shop 30 100;thing 60 0 9;thing 50 0 9;again");
        x.put(1);
        e.call(x, 80, "buy");
        x.put(0);
        x.put(1);
        e.call(x, 110, "buy");
        // 50 is left, and carried: 80. Then nothing at all.
        e.call(x, 30, "sendBack", 0);
        e.call(x, 160, "count", 8);
        e.call(x, 80, "sendBack", 1);
        e.call(x, 80, "count", 8);
        e.call(x, -1, "sendBack", 1);
        FortyBasket y = Due.shopped("shop 60 100;thing 60 0 9;thing 50 0 9;again");
        y.put(0);
        y.put(1);
        y.buy();
        // 60 is left, and carried: more than was paid.
        e.call(y, 0, "sendBack", 1);
        e.call(y, 110, "count", 8);
        e.call(y, 110, "sendBack", 0);
        e.call(y, 0, "count", 8);
        // With its codes, in their order: 10 less 50 percent are 5; 50 percent less 10 are 0.
        String codes = "shop 0 0;thing 20 0 9;thing 11 0 9;off 10 0;percent 50 0;off 3 0;sale 1 1 90;again";
        FortyBasket z = Due.shopped(codes);
        puts(z, 0, 2);
        lays(z, 0, 1);
        e.call(z, 15, "buy");
        z.day();
        z.lay(2);
        e.call(z, 10, "sendBack", 0);
        e.call(z, 5, "sendBack", 0);
        FortyBasket v = Due.shopped(codes);
        puts(v, 0, 2);
        lays(v, 1, 0);
        e.call(v, 10, "buy");
        e.call(v, 10, "sendBack", 0);
        e.call(v, 0, "sendBack", 0);
        // A later one without codes is reckoned without them.
        FortyBasket w = Due.shopped(codes);
        w.put(0);
        lays(w, 0, 1);
        e.call(w, 5, "buy");
        w.put(0);
        w.put(1);
        e.call(w, 31, "buy");
        e.call(w, 20, "sendBack", 0);
        e.call(w, 11, "sendBack", 1);
        e.call(w, 5, "count", 8);
    }

    private void day() {
        e.of(Edges.TERMS, "a DAY (999 at most).");
        FortyBasket x = Due.shopped("shop 0 0;sale 1 2 7;sale 99 99 90");
        for (int d = 1; d <= 999; d++) {
            e.call(x, d == 99 ? 90 : d <= 2 ? 7 : 0, "day");
            e.call(x, d, "count", 7);
        }
        e.call(x, -1, "day");
        e.call(x, 999, "count", 7);
        e.of(19, "A DAY: PERCENT of its SALE (0); NONE, and nothing happens, without a SHOP, or on DAY 999.");
        e.refused(FortyBasket::new, -1, "day");
        e.refused(() -> {
            FortyBasket y = Due.shopped("shop 0 0;thing 9 0 1");
            days(y, 999);
            return y;
        }, -1, "day");
        FortyBasket z = Due.shopped("shop 0 0;sale 0 0 5;sale 2 2 6");
        e.call(z, 0, "day");
        e.call(z, 6, "day");
        e.call(z, 0, "day");
    }

    // ---- UNDO, x, counts and IMAGES

    private void undo() {
        e.of(Edges.TERMS, "The last 20 can be UNDONE, the last first.");
        FortyBasket x = Due.shopped("shop 0 0;thing 1 0 0");
        for (int i = 1; i <= 45; i++) {
            x.look(0);
            e.call(x, Math.min(20, i), "count", 12);
        }
        for (int i = 19; i >= 0; i--) {
            e.call(x, i, "undo");
            e.call(x, 25 + i, "thing", 0, 4);
        }
        e.call(x, -1, "undo");
        e.call(x, 25, "thing", 0, 4);
        // Each kind of ACT, undone in turn.
        FortyBasket y = Due.shopped(BIG);
        String[] acts = {"put", "lay", "look", "buy", "put", "lay", "lift", "put", "drop", "sendBack", "day", "put", "buy"};
        int[][] args = {{0}, {1}, {0}, {}, {1}, {2}, {2}, {2}, {2}, {0}, {}, {2}, {}};
        String[] seen = new String[acts.length];
        for (int i = 0; i < acts.length; i++) {
            seen[i] = Seen.of(y);
            e.is(acts[i] + " is done", Edges.ask(y, acts[i], args[i]) >= 0 ? 1 : 0, 1);
        }
        for (int i = acts.length - 1; i >= 0; i--) {
            e.call(y, i, "undo");
            e.same("undone " + acts[i], Seen.of(y), seen[i]);
        }
        // What is done behind an UNDO stands in the place of what was undone.
        FortyBasket z = Due.shopped(BIG);
        z.put(0);
        z.put(1);
        e.call(z, 1, "undo");
        z.put(2);
        e.call(z, 2, "count", 12);
        e.call(z, 1, "undo");
        e.call(z, 0, "thing", 2, 2);
        e.call(z, 1, "thing", 0, 2);
        e.call(z, 0, "undo");
        e.call(z, 0, "count", 9);
        // A BUY undone: the one ahead of it is the LAST again, at its prices, with its CODES, and what is PAID for it.
        FortyBasket w = Due.shopped("shop 0 0;thing 100 0 9;thing 70 0 9;off 30 0;off 7 0;sale 1 1 50;again");
        w.put(0);
        w.put(1);
        lays(w, 1, 0);
        e.call(w, 133, "buy");
        w.day();
        w.put(0);
        e.call(w, 50, "buy");
        e.call(w, 7, "undo");
        e.call(w, 70, "sendBack", 1);
        e.call(w, 63, "sendBack", 0);
        FortyBasket v = Due.shopped("shop 0 0;thing 1 0 0");
        for (int i = 0; i < 99; i++) {
            v.look(0);
        }
        v.look(0);
        e.call(v, 19, "undo");
        e.call(v, 99, "thing", 0, 4);
        e.call(v, 18, "undo");
        e.call(v, 98, "thing", 0, 4);
        e.of(20, "NONE, and nothing happens: none can.");
        e.refused(FortyBasket::new, -1, "undo");
        e.refused(() -> Due.shopped(BIG), -1, "undo");
        e.refused(() -> {
            FortyBasket u = lived();
            u.back(0);
            return u;
        }, -1, "undo");
        e.refused(() -> {
            FortyBasket u = lived();
            for (int i = 0; i < 20; i++) {
                u.undo();
            }
            return u;
        }, -1, "undo");
    }

    private void promises33And35() {
        e.of(Edges.TERMS, "DRAWS: x (0 to 2147483647; 0 at first)");
        FortyBasket x = new FortyBasket();
        e.call(x, 0, "count", 13);
        e.call(x, 0, "seed", 2147483647);
        e.call(x, 2147483647, "seed", 0);
        e.call(x, 0, "seed", 1);
        e.of(33, "NONE, and nothing happens, below 0.");
        refusedOf(EdgesOfActs::lived, -1, "seed", -1, -2, LEAST);
        refusedOf(FortyBasket::new, -1, "seed", -1, LEAST);

        e.of(35, "NONE for others.");
        refusedOf(EdgesOfActs::lived, -1, "count", -1, 15, 16, LEAST, MOST);
        refusedOf(FortyBasket::new, -1, "count", -1, 15);
        e.of(35, "6: the RULE IN FORCE (NONE)");
        e.call(new FortyBasket(), -1, "count", 6);
        FortyBasket y = lived();
        e.call(y, 0, "count", 6);
        y.force(-1);
        e.call(y, -1, "count", 6);
        e.of(35, "8: PAID so far, less what came back");
        FortyBasket z = Due.shopped("shop 9 100;thing 50 0 9;percent 90 0");
        e.call(z, 0, "count", 8);
        z.put(0);
        z.lay(0);
        z.buy();
        e.call(z, 14, "count", 8);
        z.put(0);
        z.buy();
        e.call(z, 73, "count", 8);
        z.sendBack(0);
        e.call(z, 23, "count", 8);
    }

    private void images() {
        e.of(36, "An IMAGE is made: DAY; NONE without it.");
        refusedOf(EdgesOfActs::lived, -1, "image", -1, 4, LEAST, MOST);
        refusedOf(FortyBasket::new, -1, "image", -1, 4);
        FortyBasket x = Due.shopped("shop 0 0");
        for (int k = 0; k < 4; k++) {
            e.call(x, k, "image", k);
            x.day();
        }
        e.call(x, 4, "count", 12);
        for (int k = 3; k >= 0; k--) {
            e.call(x, k, "back", k);
            e.call(x, k, "count", 7);
        }
        days(x, 9);
        e.call(x, 9, "image", 2);
        x.day();
        e.call(x, 9, "back", 2);
        e.call(new FortyBasket(), 0, "image", 3);

        e.of(Edges.TERMS, "IMAGES 0 to 3: all but the TAPE and the RULES, as it is (the RULE IN FORCE, too); gone back to, it is as it was (these stay; nothing can be UNDONE then).");
        FortyBasket y = lived();
        y.image(1);
        FortyBasket z = lived();
        // What can be undone is no part of it.
        z.image(1);
        z.back(1);
        String seen = Seen.of(z);
        y.buy();
        days(y, 2);
        y.look(1);
        y.put(1);
        y.lay(0);
        y.force(1);
        y.seed(5);
        y.told(1, 1, 1, 1);
        y.sendBack(2);
        e.call(y, 1, "back", 1);
        e.same("as it was", Seen.of(y), seen);
        e.call(y, -1, "undo");
        y.end(0);
        Due.shop(y, "shop 1 1;thing 1 1 1;thing 2 2 2;thing 3 3 3;thing 4 4 4");
        e.call(y, 1, "back", 1);
        Due.tape(y, "shop 7 8;thing 9 1 2");
        e.same("as it was ahead of another shop", Seen.of(y), seen);
        e.call(y, 401, "look", 1);
        e.call(y, 0, "undo");
    }

    private void back() {
        e.of(37, "All is as in an IMAGE: DAY; NONE, and nothing happens, if it was never made, or without it.");
        refusedOf(EdgesOfActs::lived, -1, "back", 1, 2, 3, -1, 4, LEAST, MOST);
        refusedOf(FortyBasket::new, -1, "back", 0, 3, -1, 4);
        // The TAPE and the RULES stay.
        FortyBasket x = lived();
        x.end(0);
        Due.rule(x, "price 5");
        Due.tape(x, "shop 1");
        x.force(2);
        e.call(x, 1, "back", 0);
        e.call(x, 3, "count", 5);
        e.call(x, 6, "count", 14);
        e.call(x, 0, "count", 6);
        // One that was made without a SHOP.
        FortyBasket y = new FortyBasket();
        y.image(2);
        Due.shop(y, BIG);
        y.put(0);
        e.call(y, 0, "back", 2);
        e.call(y, -1, "cost", 0);
        e.call(y, -1, "put", 0);
        e.call(y, -1, "day");
        e.call(y, -1, "undo");
        e.same("as a new one", Seen.of(y), Seen.of(new FortyBasket()));
        // What is done behind it does not change the IMAGE.
        FortyBasket z = lived();
        z.back(0);
        String seen = Seen.of(z);
        z.sendBack(0);
        z.put(1);
        z.lift(2);
        z.look(2);
        z.told(-1, 0, 0, 0);
        z.told(2, 2, 2, 2);
        e.call(z, 1, "back", 0);
        e.same("as it was", Seen.of(z), seen);
    }
}
