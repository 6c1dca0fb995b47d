import java.util.function.Supplier;

/** The edges of what is asked: by part III of the document and promises 21 to 32 and 34. */
final class EdgesOfAsks {
    private static final int LEAST = EdgesOfActs.LEAST;
    private static final int MOST = EdgesOfActs.MOST;
    private static final int NO_SUM = -1000000;

    private final Edges e;

    EdgesOfAsks(Edges e) {
        this.e = e;
    }

    void all() {
        nothingChanges();
        order();
        orderTies();
        fill();
        fillTies();
        baskets();
        daysBounds();
        daysTogether();
        returned();
        returnTies();
        join();
        freedom();
        receipt();
        receiptRows();
        told();
        ruled();
        probe();
        await();
        years();
        yearsDays();
        yearsRefused();
    }

    private void refusedOf(Supplier<FortyBasket> made, int due, String name, int... args) {
        for (int arg : args) {
            e.refused(made, due, name, arg);
        }
    }

    private static FortyBasket filled(String shop, int... things) {
        FortyBasket x = Due.shopped(shop);
        for (int thing : things) {
            x.put(thing);
        }
        return x;
    }

    private static FortyBasket laid(FortyBasket x, int... codes) {
        for (int code : codes) {
            x.lay(code);
        }
        return x;
    }

    private void nothingChanges() {
        e.of(Edges.TERMS, "(By what is asked nothing changes; prices of DAYS to come are with LOOKS, STOCK, what was bought as now.)");
        FortyBasket x = EdgesOfActs.lived();
        for (int what = 0; what < 9; what++) {
            for (String name : new String[] {"order", "fill", "baskets", "days", "sent", "join", "freedom", "ruled", "cost", "count"}) {
                Edges.ask(x, name, what);
            }
            x.receipt(1399, what, what % 6);
            x.probe(what % 3, what, what % 2);
            x.await(what % 3, what % 2);
            x.years(1 + what, 60, what % 2);
            x.dear(what % 3, what, what);
        }
        e.alike("all that can be asked", x, EdgesOfActs.lived());
        // The THING is not LOOKED at, nor less in STOCK, in the DAYS to come.
        FortyBasket y = filled("shop 0 0;thing 100 0 5;want 0 9", 0, 0);
        y.buy();
        y.look(0);
        Due.rule(y, "price looks*1000+stock*100+bought*10+9-day");
        y.force(0);
        // One LOOK, three in STOCK, two bought: 1329 today, a penny less on each DAY.
        e.call(y, 1329, "dear", 0, 0, 1);
        e.call(y, 1299, "await", 0, 1);
        e.row(y, "days", 1325, 4, -2, -2, -2, -2, -2);
        e.call(y, 1, "receipt", 1230, 99, 0);
    }

    // ---- ORDER

    private void order() {
        e.of(Edges.TERMS, "ORDER: rows of CODES not used up, none twice, none alone with another one, any number, by which the basket COSTS least;");
        e.row(filled("shop 5 9;thing 7 0 1", 0), "order", 12, -2, -2, -2, -2, -2);
        e.row(filled("shop 5 9;thing 7 0 1"), "order", 0, -2, -2, -2, -2, -2);
        e.row(filled("shop 5 9;thing 7 0 1;off 1 0;post 0"), "order", 0, -2, -2, -2, -2, -2);
        // Each lets the next one do something: all five, from the last to the first.
        String five = "shop 50 9999;thing 1000 0 1;off 50 600;off 100 700;off 100 800;off 100 900;off 100 1000";
        e.row(filled(five, 0), "order", 600, 4, 3, 2, 1, 0);
        e.row(filled(five + ";alone 4 0", 0), "order", 650, 4, 3, 2, 1, -2);
        // None twice: 100 is taken off but once.
        e.row(filled("shop 0 0;thing 1000 0 1;off 100 0", 0), "order", 900, 0, -2, -2, -2, -2);
        // Alone with one another, all three: one of them.
        e.row(filled("shop 0 0;thing 1000 0 1;off 100 0;off 300 0;off 200 0;alone 0 1;alone 1 2;alone 2 0", 0), "order", 700, 1, -2, -2, -2, -2);
        // Used up: not any more; laid or not laid is one.
        FortyBasket x = laid(filled("shop 0 0;thing 1000 0 2;off 100 0;off 300 0", 0), 1);
        e.row(x, "order", 600, 0, 1, -2, -2, -2);
        x.buy();
        x.put(0);
        e.row(x, "order", 900, 0, -2, -2, -2, -2);
        x.lay(0);
        e.row(x, "order", 900, 0, -2, -2, -2, -2);
        x.buy();
        x.put(0);
        e.call(x, -1, "code", 0, 3);

        e.of(21, "ORDER what 0: how much, 1 to 5: the CODE in that place (-2: so many there are not). -3 for others, or without a SHOP.");
        e.row(filled(five, 0), "order", 600, 4, 3, 2, 1, 0);
        e.row(Due.shopped("shop 0 0"), "order", 0, -2, -2, -2, -2, -2);
        refusedOf(EdgesOfActs::lived, -3, "order", -1, 6, LEAST, MOST);
        refusedOf(FortyBasket::new, -3, "order", 0, 1, 5, 6, -1);
    }

    private void orderTies() {
        e.of(Edges.TERMS, "of several the first (a row ahead of longer ones it begins; by numbers else): how much; the row.");
        // What does nothing is not laid behind a row, but it may stand ahead of one.
        e.row(filled("shop 0 0;thing 1000 0 1;off 100 0;off 5 9999", 0), "order", 900, 0, -2, -2, -2, -2);
        e.row(filled("shop 0 0;thing 1000 0 1;off 5 9999;off 100 0", 0), "order", 900, 0, 1, -2, -2, -2);
        e.row(filled("shop 0 0;thing 1000 0 1;off 5 9999;post 0", 0), "order", 1000, -2, -2, -2, -2, -2);
        // Alike: by numbers.
        e.row(filled("shop 0 0;thing 1000 0 1;off 100 0;off 100 0;alone 0 1", 0), "order", 900, 0, -2, -2, -2, -2);
        e.row(filled("shop 0 0;thing 1000 0 1;off 100 0;off 100 0;off 100 0", 0), "order", 700, 0, 1, 2, -2, -2);
        // The last one takes what is left in any place: the row ends where nothing is left.
        e.row(filled("shop 0 0;thing 100 0 1;off 60 0;off 10 0;off 40 0", 0), "order", 0, 0, 1, 2, -2, -2);
        e.row(filled("shop 0 0;thing 100 0 1;off 60 0;off 40 0;off 10 0", 0), "order", 0, 0, 1, -2, -2, -2);
        e.row(filled("shop 0 0;thing 100 0 1;off 10 0;off 100 0", 0), "order", 0, 0, 1, -2, -2, -2);
    }

    // ---- FILL

    private void fill() {
        e.of(Edges.TERMS, "FILL: 0 to 3 THINGS more (any, the same too, as PUT lets) so that COST (CODES as laid) less WORTH of these is least;");
        e.row(filled("shop 9 0;thing 10 9 9"), "fill", 0, -2, -2, -2);
        e.row(filled("shop 9 0;thing 10 300 9"), "fill", -870, 0, 0, 0);
        e.row(filled("shop 9 0;thing 10 300 2;thing 10 200 9"), "fill", -770, 0, 0, 1);
        e.row(filled("shop 9 0;thing 10 300 2;thing 10 200 9", 0, 0), "fill", -550, 1, 1, 1);
        e.row(filled("shop 9 0;thing 10 300 2;thing 10 200 1", 0), "fill", -470, 0, 1, -2);
        e.row(filled("shop 9 0;thing 10 300 0"), "fill", 0, -2, -2, -2);
        // Twelve at most, of all.
        String twelve = "shop 9 0;thing 10 300 9;thing 20 200 9";
        FortyBasket x = filled(twelve, 0, 0, 0, 0, 0, 1, 1, 1, 1);
        e.row(x, "fill", 130 + 30 - 900, 0, 0, 0);
        x.put(0);
        e.row(x, "fill", 140 + 20 - 600, 0, 0, -2);
        x.put(0);
        e.row(x, "fill", 150 + 10 - 300, 0, -2, -2);
        x.put(0);
        e.row(x, "fill", 160, -2, -2, -2);
        // With codes as laid: an off from a sum on, that one more THING reaches.
        String codes = "shop 0 0;thing 100 0 9;thing 10 0 9;off 50 110";
        e.row(filled(codes, 0), "fill", 100, -2, -2, -2);
        e.row(laid(filled(codes, 0), 0), "fill", 60, 1, -2, -2);
        // Up to FREE: by one, by two, by three, and not by four.
        for (int n = 1; n <= 4; n++) {
            FortyBasket y = filled("shop 100 " + (100 + n * 10) + ";thing 100 0 1;thing 10 0 9", 0);
            e.row(y, "fill", n < 4 ? 100 + n * 10 : 200, n < 4 ? 1 : -2, n == 2 || n == 3 ? 1 : -2, n == 3 ? 1 : -2);
        }

        e.of(22, "FILL what 0: how much (below 0, too), 1 to 3: the THING in that place (-2: so many there are not). -1000000 for others, or without a SHOP.");
        e.row(filled("shop 9 0;thing 10 5000 9"), "fill", 30 - 15000, 0, 0, 0);
        e.row(Due.shopped("shop 9 9"), "fill", 0, -2, -2, -2);
        refusedOf(EdgesOfActs::lived, NO_SUM, "fill", -1, 4, LEAST, MOST);
        refusedOf(FortyBasket::new, NO_SUM, "fill", 0, 1, 3, 4, -1);
    }

    private void fillTies() {
        e.of(Edges.TERMS, "of several the fewest, then the first (as a row of THINGS that does not fall): how much; the row.");
        e.row(filled("shop 9 0;thing 10 10 9"), "fill", 0, -2, -2, -2);
        e.row(filled("shop 100 1000;thing 900 0 1;thing 90 0 9;thing 10 0 9", 0), "fill", 1000, -2, -2, -2);
        // Two of THING 1, or one of THING 2: the fewest.
        e.row(filled("shop 99 1000;thing 900 0 1;thing 50 0 9;thing 100 0 9", 0), "fill", 999, -2, -2, -2);
        e.row(filled("shop 101 1000;thing 900 0 1;thing 50 0 9;thing 100 0 9", 0), "fill", 1000, 2, -2, -2);
        e.row(filled("shop 101 1000;thing 900 0 1;thing 100 0 9;thing 100 0 9", 0), "fill", 1000, 1, -2, -2);
        // 1 3, and 2 2: the first.
        e.row(filled("shop 101 1000;thing 900 0 1;thing 40 0 9;thing 50 0 9;thing 60 0 9", 0), "fill", 1000, 1, 3, -2);
        e.row(filled("shop 9 0;thing 10 20 1;thing 10 20 1;thing 10 20 1;thing 10 20 1"), "fill", -30, 0, 1, 2);
    }

    // ---- BASKETS and DAYS

    private void baskets() {
        e.of(Edges.TERMS, "BASKETS: all WANTS bought today, without CODES, each in one of several baskets (STOCK is not asked): least COST together;");
        FortyBasket x = Due.shopped("shop 9 100;thing 99 0 0;thing 1 0 0;want 0 0;sale 1 1 50;post 0");
        e.row(x, "baskets", 108, 0, -2, -2, -2, -2, -2, 1);
        x.lay(0);
        e.row(x, "baskets", 108, 0, -2, -2, -2, -2, -2, 1);
        x.day();
        e.row(x, "baskets", 59, 0, -2, -2, -2, -2, -2, 1);
        x.day();
        e.row(x, "baskets", 108, 0, -2, -2, -2, -2, -2, 1);
        e.row(Due.shopped("shop 9 100;thing 99 0 0;thing 1 0 0;want 0 0;want 1 0"), "baskets", 100, 0, 0, -2, -2, -2, -2, 1);

        e.of(Edges.TERMS, "of several the first row of which basket each WANT is in (0 for the first; each one 1 more at most than the greatest ahead of it).");
        String six = ";thing 100 0 0" + ";want 0 0".repeat(6);
        e.row(Due.shopped("shop 9 100" + six), "baskets", 600, 0, 0, 0, 0, 0, 0, 1);
        e.row(Due.shopped("shop 0 9999" + six), "baskets", 600, 0, 0, 0, 0, 0, 0, 1);
        e.row(Due.shopped("shop 9 0" + six), "baskets", 600, 0, 0, 0, 0, 0, 0, 1);
        e.row(Due.shopped("shop 9 601" + six), "baskets", 609, 0, 0, 0, 0, 0, 0, 1);

        e.of(23, "BASKETS what 0: how much, 1 to 6: the basket of the WANT less 1 (-2: there is no such WANT), 7: how many baskets. -3 for others, or without a SHOP.");
        e.row(Due.shopped("shop 9 100;thing 99 0 0"), "baskets", 0, -2, -2, -2, -2, -2, -2, 0);
        e.row(Due.shopped("shop 9 601" + six), "baskets", 609, 0, 0, 0, 0, 0, 0, 1);
        refusedOf(EdgesOfActs::lived, -3, "baskets", -1, 8, LEAST, MOST);
        refusedOf(FortyBasket::new, -3, "baskets", 0, 1, 7, 8, -1);
    }

    private void daysBounds() {
        e.of(Edges.TERMS, "DAYS: for each WANT a DAY, now or one of the next 4, not behind that by which it is wanted (one that is late already: now),");
        FortyBasket x = Due.shopped("shop 0 0;thing 100 0 0;want 0 30;want 0 4;want 0 3;sale 4 4 50;sale 5 5 80");
        e.row(x, "days", 200, 4, 4, 0, -2, -2, -2);
        x.day();
        e.row(x, "days", 20 + 50 + 100, 4, 3, 0, -2, -2, -2);
        EdgesOfActs.days(x, 2);
        e.row(x, "days", 20 + 50 + 100, 2, 1, 0, -2, -2, -2);
        x.day();
        // DAY 4: the third is late; the second is wanted by today.
        e.row(x, "days", 20 + 50 + 50, 1, 0, 0, -2, -2, -2);
        x.day();
        e.row(x, "days", 60, 0, 0, 0, -2, -2, -2);
        x.day();
        e.row(x, "days", 300, 0, 0, 0, -2, -2, -2);
        FortyBasket y = Due.shopped("shop 0 0;thing 100 0 0;want 0 30;sale 30 30 50;sale 31 34 90");
        EdgesOfActs.days(y, 25);
        e.row(y, "days", 100, 0, -2, -2, -2, -2, -2);
        y.day();
        e.row(y, "days", 50, 4, -2, -2, -2, -2, -2);
        EdgesOfActs.days(y, 4);
        // DAY 30 is the last by which it is wanted.
        e.row(y, "days", 50, 0, -2, -2, -2, -2, -2);
        y.day();
        e.row(y, "days", 10, 0, -2, -2, -2, -2, -2);
        EdgesOfActs.days(y, 4);
        e.row(y, "days", 100, 0, -2, -2, -2, -2, -2);
    }

    private void daysTogether() {
        String six = ";thing 100 0 0;want 0 0;want 0 1;want 0 2;want 0 3;want 0 4;want 0 5;post 0";
        e.of(Edges.TERMS, "so that what is bought, all of a DAY in one basket, without CODES, costs least together; of several the first row (how many DAYS from now each).");
        FortyBasket x = Due.shopped("shop 0 0" + six);
        Due.rule(x, "price 100-day*10");
        e.row(x, "days", 600, 0, 0, 0, 0, 0, 0);
        x.force(0);
        e.row(x, "days", 460, 0, 1, 2, 3, 4, 4);
        e.row(x, "baskets", 600, 0, 0, 0, 0, 0, 0, 1);
        Due.shop(x, "shop 50 9999" + six);
        // 50 for each DAY: today and DAY 3 are best.
        e.row(x, "days", 610, 0, 0, 0, 3, 3, 3);
        x.lay(0);
        e.row(x, "days", 610, 0, 0, 0, 3, 3, 3);
        Due.shop(x, "shop 50 200" + six);
        // Free from 200 on: three of 100 on DAY 0, and three of 70 on DAY 3.
        e.row(x, "days", 510, 0, 0, 0, 3, 3, 3);
        FortyBasket y = Due.shopped("shop 10 100;thing 60 0 0;thing 50 0 0;want 0 9;want 1 9;want 0 9");
        e.row(y, "days", 170, 0, 0, 0, -2, -2, -2);
        // Without carriage all DAYS are alike.
        e.row(Due.shopped("shop 0 9999;thing 60 0 0" + ";want 0 30".repeat(6)), "days", 360, 0, 0, 0, 0, 0, 0);

        e.of(24, "DAYS what 0: how much, 1 to 6: DAYS from now of the WANT less 1 (-2: there is no such WANT). -3 for others, or without a SHOP.");
        e.row(Due.shopped("shop 9 9;thing 1 1 1"), "days", 0, -2, -2, -2, -2, -2, -2);
        e.row(Due.shopped("shop 9 9;thing 1 1 1;want 0 0"), "days", 10, 0, -2, -2, -2, -2, -2);
        refusedOf(EdgesOfActs::lived, -3, "days", -1, 7, LEAST, MOST);
        refusedOf(FortyBasket::new, -3, "days", 0, 1, 6, 7, -1);
    }

    // ---- RETURN, JOIN and FREEDOM

    private static FortyBasket bought(String shop, int... things) {
        FortyBasket x = filled(shop, things);
        x.buy();
        return x;
    }

    private void returned() {
        e.of(Edges.TERMS, "RETURN: how many of each THING of the LAST one bought to SEND BACK, one behind the other by numbers, so that what comes back less WORTH of these is greatest;");
        String eight = "shop 0 0" + ";thing 10 9 9".repeat(8);
        e.row(Due.shopped(eight), "sent", 0, 0, 0, 0, 0, 0, 0, 0, 0);
        e.row(bought(eight, 0, 0, 1, 1, 2, 2, 3, 3, 4, 5, 6, 7), "sent", 12, 2, 2, 2, 2, 1, 1, 1, 1);
        e.row(bought(eight, 7, 7, 7, 7, 7, 7, 7, 7, 7, 0), "sent", 10, 1, 0, 0, 0, 0, 0, 0, 9);
        FortyBasket x = bought("shop 7 999;thing 100 60 5;thing 50 50 5;thing 30 80 5", 0, 0, 1, 2);
        e.row(x, "sent", 80, 2, 0, 0, -2, -2, -2, -2, -2);
        x.sendBack(0);
        e.row(x, "sent", 40, 1, 0, 0, -2, -2, -2, -2, -2);
        x.sendBack(0);
        e.row(x, "sent", 0, 0, 0, 0, -2, -2, -2, -2, -2);
        x.put(2);
        x.buy();
        e.row(x, "sent", 0, 0, 0, 0, -2, -2, -2, -2, -2);
        // One behind the other: 60 paid; 10 for THING 0, 0 for the one, 50 for the other one.
        FortyBasket y = bought("shop 30 50;thing 10 2 1;thing 25 1 2;again", 0, 1, 1);
        e.row(y, "sent", 56, 1, 2, -2, -2, -2, -2, -2, -2);
        e.call(y, 10, "sendBack", 0);
        e.row(y, "sent", 48, 0, 2, -2, -2, -2, -2, -2, -2);
        e.call(y, 0, "sendBack", 1);
        e.row(y, "sent", 49, 0, 1, -2, -2, -2, -2, -2, -2);

        e.of(25, "RETURN what 0: how much, 1 to 8: how many of the THING less 1 (-2: there is no such THING). -1000000 for others, or without a SHOP.");
        e.row(Due.shopped("shop 9 9"), "sent", 0, -2, -2, -2, -2, -2, -2, -2, -2);
        e.row(bought(eight, 7), "sent", 1, 0, 0, 0, 0, 0, 0, 0, 1);
        refusedOf(EdgesOfActs::lived, NO_SUM, "sent", -1, 9, LEAST, MOST);
        refusedOf(FortyBasket::new, NO_SUM, "sent", 0, 1, 8, 9, -1);
    }

    private void returnTies() {
        e.of(Edges.TERMS, "of several the fewest, then the first row (by THINGS, how many, the first THING first); how much that is.");
        // What comes back is what it is worth: none.
        e.row(bought("shop 0 0;thing 50 50 5", 0, 0), "sent", 0, 0, -2, -2, -2, -2, -2, -2, -2);
        // 40 paid; either alone brings 40, for what is left COSTS nothing.
        e.row(bought(laid(filled("shop 0 0;thing 50 10 1;thing 50 10 1;off 60 0;again", 0, 1), 0)), "sent", 30, 0, 1, -2, -2, -2, -2, -2, -2);
        // 100 paid; THING 0 alone brings 80, both of THING 1 80, too: the fewest.
        e.row(bought(laid(filled("shop 0 0;thing 100 20 1;thing 50 10 2;off 100 0;again", 0, 1, 1), 0)), "sent", 80, 1, 0, -2, -2, -2, -2, -2, -2);
        e.row(bought(laid(filled("shop 0 0;thing 50 10 2;thing 100 20 1;off 100 0;again", 0, 0, 1), 0)), "sent", 80, 0, 1, -2, -2, -2, -2, -2, -2);
        // 200 paid; 1 2 and 2 0 bring 200 - 40.
        e.row(bought(laid(filled("shop 0 0;thing 100 20 2;thing 50 10 2;off 100 0;again", 0, 0, 1, 1), 0)), "sent", 160, 2, 0, -2, -2, -2, -2, -2, -2);
        // Two are the fewest in any case: of 0 2, 1 1 and 2 0 the first.
        e.row(bought(laid(filled("shop 0 0;thing 50 10 2;thing 50 10 2;off 100 0;again", 0, 0, 1, 1), 0)), "sent", 80, 0, 2, -2, -2, -2, -2, -2, -2);
    }

    private static FortyBasket bought(FortyBasket x) {
        x.buy();
        return x;
    }

    private void join() {
        e.of(Edges.TERMS, "JOIN with another basket that comes to a sum (1 to 9999) without CARRIAGE: what is saved if both are one: COST of the one and the sum with CARRIAGE (by FREE), less COST of both together, in which it is added ahead of the CODES.");
        FortyBasket x = filled(EdgesOfActs.BIG, 1);
        e.call(x, 490, "join", 1);
        e.call(x, 490, "join", 3600);
        e.call(x, 980, "join", 3601);
        e.call(x, 980, "join", 3999);
        e.call(x, 490, "join", 4000);
        e.call(x, 490, "join", 9999);
        FortyBasket y = Due.shopped(EdgesOfActs.BIG);
        for (int sum : new int[] {1, 3999, 4000, 9999}) {
            e.call(y, 0, "join", sum);
        }
        y.lay(2);
        // The post asks 100, and finds it in the other one.
        e.call(y, 0, "join", 99);
        e.call(y, 490, "join", 100);
        y.lay(0);
        e.call(y, 490, "join", 2999);
        e.call(y, 490 + 300, "join", 3000);
        // It may cost more, too: with 60 the percent is gone behind the off.
        FortyBasket z = laid(filled("shop 0 0;thing 100 0 1;off 10 101;percent 50 100", 0), 0, 1);
        e.call(z, 50, "cost", 0);
        e.call(z, 50 + 5 - 95, "join", 5);

        e.of(26, "JOIN; -1000000 without these, or a SHOP.");
        refusedOf(EdgesOfActs::lived, NO_SUM, "join", 0, -1, 10000, LEAST, MOST);
        refusedOf(FortyBasket::new, NO_SUM, "join", 1, 9999, 0);
    }

    private void free(String shop, int free, int much, int... things) {
        FortyBasket x = filled(shop, things);
        e.is("freedom(0) of " + shop, x.freedom(0), free);
        e.is("freedom(1) of " + shop, x.freedom(1), much);
    }

    private void freedom() {
        e.of(Edges.TERMS, "FREEDOM: for FREE 0, 500, .. 9500 what one would pay for the basket as it would be by FILL: most pence to the shop less WORTH one half, downwards, of what was FILLED: of several the least FREE; how much.");
        free("shop 100 0;thing 600 0 1", 0, 0);
        free("shop 100 0;thing 499 0 1", 500, 599, 0);
        free("shop 100 0;thing 500 0 1", 1000, 600, 0);
        free("shop 0 0;thing 500 0 1", 0, 500, 0);
        free("shop 100 0;thing 4749 0 1;thing 4750 0 1", 9500, 9599, 0, 1);
        free("shop 100 0;thing 4750 0 2", 0, 9500, 0, 0);
        free("shop 100 0;thing 4500 0 2", 9500, 9100, 0, 0);
        free("shop 100 0;thing 4499 0 1;thing 4500 0 1", 9000, 9099, 0, 1);
        // Free from 1000 on one THING 1 is filled up: 1050, less 199 of 399.
        free("shop 100 7777;thing 600 0 5;thing 450 399 5", 1000, 851, 0);
        // From 1500 on two are: 1500, less one half of 802; from 2000 on none or three: 700.
        free("shop 100 7777;thing 600 0 5;thing 450 401 5", 1500, 1099, 0);
        // Always filled up, never carried.
        free("shop 100 0;thing 5000 0 2;thing 10 5000 9", 0, 10030 - 7500, 0, 0);
        // With codes as laid: 100 less 10 is 90, carried from 500 on.
        FortyBasket x = laid(filled("shop 9 0;thing 100 0 1;off 10 0", 0), 0);
        e.row(x, "freedom", 500, 99);
        x.lift(0);
        e.row(x, "freedom", 500, 109);
        x.drop(0);
        e.row(x, "freedom", 0, 0);

        e.of(27, "FREEDOM what 0: FREE, 1: how much. -1000000 for others, or without a SHOP.");
        e.row(Due.shopped("shop 9 9"), "freedom", 0, 0);
        refusedOf(EdgesOfActs::lived, NO_SUM, "freedom", -1, 2, LEAST, MOST);
        refusedOf(FortyBasket::new, NO_SUM, "freedom", 0, 1, 2, -1);
    }

    // ---- RECEIPT

    private void receiptIs(FortyBasket x, int sum, int day, int... due) {
        for (int what = 0; what < due.length; what++) {
            e.call(x, due[what], "receipt", sum, day, what);
        }
    }

    private void receipt() {
        e.of(Edges.TERMS, "RECEIPT of a sum (0 to 30000) on a DAY (0 to 99): baskets of 1 to 4 THINGS (rows that do not fall, STOCK not asked), without CODES, that COST so much then:");
        FortyBasket x = Due.shopped("shop 0 0;thing 5000 0 0;sale 99 99 90;sale 0 0 50");
        receiptIs(x, 0, 0, 0, -2, -2, -2, -2, 0);
        receiptIs(x, 2500, 0, 1, 0, -2, -2, -2, 1);
        receiptIs(x, 10000, 0, 1, 0, 0, 0, 0, 1);
        receiptIs(x, 12500, 0, 0, -2, -2, -2, -2, 0);
        receiptIs(x, 500, 99, 1, 0, -2, -2, -2, 1);
        receiptIs(x, 1500, 99, 1, 0, 0, 0, -2, 1);
        receiptIs(x, 20000, 98, 1, 0, 0, 0, 0, 1);
        receiptIs(x, 25000, 98, 0, -2, -2, -2, -2, 0);
        Due.rule(x, "price 7500");
        Due.rule(x, "price 7501-day");
        Due.rule(x, "price 6000");
        x.force(0);
        receiptIs(x, 30000, 98, 1, 0, 0, 0, 0, 1);
        receiptIs(x, 29999, 98, 0, -2, -2, -2, -2, 0);
        x.force(1);
        receiptIs(x, 30000, 1, 1, 0, 0, 0, 0, 1);
        receiptIs(x, 30000, 0, 0, -2, -2, -2, -2, 0);
        x.force(2);
        receiptIs(x, 30000, 1, 0, -2, -2, -2, -2, 0);
        // Carried, and codes that are laid do nothing.
        FortyBasket y = laid(Due.shopped("shop 10 100;thing 30 0 0;thing 70 0 0;post 0;off 5 0"), 0, 1);
        receiptIs(y, 30, 0, 0, -2, -2, -2, -2, 0);
        receiptIs(y, 40, 0, 1, 0, -2, -2, -2, 1);
        receiptIs(y, 100, 0, 2, 0, 1, -2, -2, 1);
        receiptIs(y, 110, 0, 0, -2, -2, -2, -2, 0);
        receiptIs(y, 120, 0, 1, 0, 0, 0, 0, 1);

        e.of(28, "RECEIPT what 0: how many, 1 to 4: the THING in that place of the first row (-2: so many there are not, or no row), 5: as bits (no row: 0). -3 without these, or a SHOP.");
        receiptIs(Due.shopped("shop 9 9"), 0, 0, 0, -2, -2, -2, -2, 0);
        for (int[] args : new int[][] {{-1, 0, 0}, {30001, 0, 0}, {LEAST, 0, 0}, {MOST, 0, 0}, {5, -1, 0}, {5, 100, 0}, {5, LEAST, 0}, {5, MOST, 0},
            {5, 0, -1}, {5, 0, 6}, {5, 0, LEAST}, {5, 0, MOST}}) {
            e.refused(EdgesOfActs::lived, -3, "receipt", args);
        }
        for (int what = -1; what < 7; what++) {
            e.refused(FortyBasket::new, -3, "receipt", 0, 0, what);
        }
    }

    private void receiptRows() {
        e.of(Edges.TERMS, "how many there are; the first row (the shorter first); THINGS that are in all, as bits.");
        FortyBasket x = Due.shopped("shop 10 100;thing 30 0 0;thing 60 0 0;thing 20 0 0");
        // 90 and the carriage: 01, 000, 0222; 100: 122, 0022.
        receiptIs(x, 100, 0, 5, 0, 1, -2, -2, 0);
        // 012, 0002.
        receiptIs(x, 110, 0, 2, 0, 1, 2, -2, 5);
        receiptIs(x, 130, 0, 1, 0, 1, 2, 2, 7);
        receiptIs(x, 240, 0, 1, 1, 1, 1, 1, 2);
        // Eight alike: rows of one, of four.
        FortyBasket y = Due.shopped("shop 0 0" + ";thing 5 0 0".repeat(8));
        receiptIs(y, 5, 0, 8, 0, -2, -2, -2, 0);
        receiptIs(y, 10, 0, 36, 0, 0, -2, -2, 0);
        receiptIs(y, 15, 0, 120, 0, 0, 0, -2, 0);
        receiptIs(y, 20, 0, 330, 0, 0, 0, 0, 0);
        receiptIs(y, 25, 0, 0, -2, -2, -2, -2, 0);
        FortyBasket z = Due.shopped("shop 0 0;thing 1 0 0;thing 2 0 0;thing 3 0 0;thing 4 0 0;thing 5 0 0;thing 6 0 0;thing 7 0 0;thing 100 0 0");
        receiptIs(z, 100, 0, 1, 7, -2, -2, -2, 128);
        receiptIs(z, 101, 0, 1, 0, 7, -2, -2, 129);
        receiptIs(z, 400, 0, 1, 7, 7, 7, 7, 128);
    }

    // ---- PRICES, RULED, PROBE and WAIT

    private static FortyBasket ten() {
        FortyBasket x = EdgesOfActs.lived();
        x.told(-1, 0, 0, 0);
        for (int i = 0; i < 10; i++) {
            x.told(0, i, i, 3610 + 2 * i);
        }
        return x;
    }

    private void told() {
        e.of(Edges.TERMS, "PRICES 0 to 9, told: a THING on a DAY (0 to 99), LOOKED at so often (0 to 99), was so dear (STOCK, bought as now).");
        FortyBasket x = EdgesOfActs.lived();
        x.told(-1, 0, 0, 0);
        for (int i = 1; i <= 10; i++) {
            e.call(x, i, "told", 2, 99, 99, 1198);
        }
        e.call(x, -2, "told", 2, 99, 99, 1198);
        e.call(x, 1, "ruled", 0);
        e.call(x, 0, "ruled", 1);
        // Each of the ten is asked: the last of them is not so.
        FortyBasket y = ten();
        e.call(y, 1, "ruled", 0);
        for (int wrong = 0; wrong < 10; wrong++) {
            y.told(-1, 0, 0, 0);
            for (int i = 0; i < 10; i++) {
                y.told(0, i, i, 3610 + 2 * i + (i == wrong ? 1 : 0));
            }
            e.call(y, 0, "ruled", 0);
        }
        // Of the DAY that was told, not of today; STOCK and what was bought are those of now.
        FortyBasket z = Due.shopped("shop 0 0;thing 100 0 5;sale 5 5 50;sale 99 99 90");
        z.told(0, 5, 0, 50);
        z.told(0, 99, 99, 10);
        z.told(0, 0, 0, 100);
        e.call(z, 1, "ruled", 0);
        Due.rule(z, "price stock*10+bought+day");
        z.told(-1, 0, 0, 0);
        z.told(0, 7, 0, 57);
        e.call(z, 0, "ruled", 1);
        z.put(0);
        z.buy();
        e.call(z, -2, "ruled", 1);
        z.told(-1, 0, 0, 0);
        z.told(0, 7, 0, 48);
        e.call(z, 0, "ruled", 1);

        e.of(29, "A PRICE (thing NONE: there are none then, 0; dear 1 to 9999): how many; -2, and nothing happens, without these, or if there are 10.");
        e.call(ten(), 0, "told", -1, 0, 0, 0);
        e.call(ten(), 0, "told", -1, -1, 100, 10000);
        e.call(new FortyBasket(), 0, "told", -1, 0, 0, 0);
        FortyBasket v = ten();
        v.told(-1, 0, 0, 0);
        e.call(v, 0, "count", 11);
        e.call(v, 1, "told", 0, 0, 0, 1);
        e.call(v, 2, "told", 0, 0, 0, 9999);
        for (int[] args : new int[][] {{3, 0, 0, 1}, {-2, 0, 0, 1}, {LEAST, 0, 0, 1}, {MOST, 0, 0, 1}, {0, -1, 0, 1}, {0, 100, 0, 1}, {0, LEAST, 0, 1},
            {0, MOST, 0, 1}, {0, 0, -1, 1}, {0, 0, 100, 1}, {0, 0, LEAST, 1}, {0, 0, MOST, 1}, {0, 0, 0, 0}, {0, 0, 0, -1}, {0, 0, 0, 10000},
            {0, 0, 0, LEAST}, {0, 0, 0, MOST}}) {
            e.refused(EdgesOfActs::lived, -2, "told", args);
        }
        e.refused(EdgesOfAsks::ten, -2, "told", 0, 0, 0, 1);
        e.refused(FortyBasket::new, -2, "told", 0, 0, 0, 1);
    }

    /** Six RULES, by each of which THING 0 is dearer by so much for each LOOK. */
    private static FortyBasket six(int... more) {
        FortyBasket x = Due.shopped("shop 0 0;thing 100 0 9");
        for (int each : more) {
            Due.rule(x, "price told+looks*" + each);
        }
        return x;
    }

    private void ruled() {
        e.of(Edges.TERMS, "RULED: which of the RULES, and of none, so that all of these are so: how many; the first (none ahead of 0, told as NONE).");
        FortyBasket x = six(1, 2, 3, 4, 5, 6);
        e.row(x, "ruled", 7, -1);
        x.told(0, 0, 0, 100);
        e.row(x, "ruled", 7, -1);
        x.told(0, 0, 2, 112);
        e.row(x, "ruled", 1, 5);
        x.told(0, 0, 3, 100);
        e.row(x, "ruled", 0, -2);
        e.row(Due.shopped("shop 0 0"), "ruled", 1, -1);
        FortyBasket y = six(2, 0, 2);
        y.told(0, 0, 1, 100);
        e.row(y, "ruled", 2, -1);
        y.told(-1, 0, 0, 0);
        y.told(0, 0, 1, 102);
        e.row(y, "ruled", 2, 0);
        y.force(1);
        e.row(y, "ruled", 2, 0);

        e.of(30, "RULED what 0: how many, 1: the first (NONE: none; -2: there is none such). -3 for others, or without a SHOP.");
        e.row(six(), "ruled", 1, -1);
        FortyBasket z = six();
        z.told(0, 0, 0, 99);
        e.row(z, "ruled", 0, -2);
        refusedOf(EdgesOfActs::lived, -3, "ruled", -1, 2, LEAST, MOST);
        refusedOf(FortyBasket::new, -3, "ruled", 0, 1, 2, -1);
    }

    private void probed(FortyBasket x, int looks, int alike) {
        e.call(x, looks, "probe", 0, 0, 0);
        e.call(x, alike, "probe", 0, 0, 1);
    }

    private void probe() {
        e.of(Edges.TERMS, "PROBE of a THING on a DAY: by how many LOOKS (0 to 9) these part best: the most alike are fewest, of several the least; how many.");
        probed(six(), 0, 1);
        probed(six(1, 2, 3, 4, 5, 6), 1, 1);
        probed(six(0, 0, 0, 0, 0, 0), 0, 7);
        probed(six(1, 1, 1, 0, 0, 0), 1, 4);
        probed(six(1, 1, 1, 2), 1, 3);
        for (int looks = 1; looks <= 10; looks++) {
            FortyBasket x = Due.shopped("shop 0 0;thing 100 0 9");
            Due.rule(x, "price told if looks<" + looks + ";price 1");
            probed(x, looks <= 9 ? looks : 0, looks <= 9 ? 1 : 2);
        }
        // Only those that are so are parted.
        FortyBasket y = six(1, 2, 2);
        probed(y, 1, 2);
        y.told(0, 0, 1, 101);
        probed(y, 0, 1);
        // By the DAY that is asked, and by the THING.
        FortyBasket z = Due.shopped("shop 0 0;thing 100 0 9;thing 100 0 9");
        Due.rule(z, "price told+looks*thing*day");
        e.call(z, 2, "probe", 0, 99, 1);
        e.call(z, 2, "probe", 1, 0, 1);
        e.call(z, 1, "probe", 1, 99, 1);
        e.call(z, 1, "probe", 1, 99, 0);

        e.of(31, "PROBE (DAY 0 to 99) what 0: LOOKS, 1: how many; -2: no RULE is so. NONE without these.");
        FortyBasket v = six(1);
        v.told(0, 0, 1, 99);
        probed(v, -2, -2);
        e.call(v, -1, "probe", 0, 0, 2);
        e.call(v, -1, "probe", 1, 0, 0);
        for (int[] args : new int[][] {{3, 0, 0}, {-1, 0, 0}, {LEAST, 0, 0}, {MOST, 0, 0}, {0, -1, 0}, {0, 100, 0}, {0, LEAST, 0}, {0, MOST, 0},
            {0, 0, -1}, {0, 0, 2}, {0, 0, LEAST}, {0, 0, MOST}}) {
            e.refused(EdgesOfActs::lived, -1, "probe", args);
        }
        e.refused(FortyBasket::new, -1, "probe", 0, 0, 0);
    }

    private void waits(FortyBasket x, int day, int dear) {
        e.call(x, day, "await", 0, 0);
        e.call(x, dear, "await", 0, 1);
    }

    private void await() {
        e.of(Edges.TERMS, "WAIT for a THING: the DAY now or of the next 30 on which it is least dear; of several the first; how dear.");
        FortyBasket x = Due.shopped("shop 0 0;thing 100 0 9;sale 30 30 10;sale 31 32 20");
        waits(x, 30, 90);
        x.day();
        waits(x, 31, 80);
        x.day();
        waits(x, 31, 80);
        EdgesOfActs.days(x, 29);
        waits(x, 31, 80);
        x.day();
        waits(x, 32, 80);
        x.day();
        waits(x, 33, 100);
        waits(Due.shopped("shop 0 0;thing 100 0 9;sale 31 31 20"), 0, 100);
        waits(Due.shopped("shop 0 0;thing 100 0 9;sale 0 99 20"), 0, 80);

        e.of(32, "WAIT what 0: the DAY, 1: how dear. NONE without these.");
        for (int[] args : new int[][] {{3, 0}, {-1, 0}, {LEAST, 0}, {MOST, 0}, {0, -1}, {0, 2}, {0, LEAST}, {0, MOST}}) {
            e.refused(EdgesOfActs::lived, -1, "await", args);
        }
        e.refused(FortyBasket::new, -1, "await", 0, 0);
        e.refused(FortyBasket::new, -1, "await", 0, 1);
    }

    // ---- YEARS

    private static final int BUYS_AT_ONCE = 654583775;

    private static int drawn(int x) {
        return (int) ((x * 1103515245L + 12345L) % 2147483648L);
    }

    private void lives(FortyBasket x, int m, int n, int paid, int things) {
        e.call(x, paid, "years", m, n, 0);
        e.call(x, things, "years", m, n, 1);
    }

    private void years() {
        e.of(Edges.TERMS, "becomes x * 1103515245 + 12345, of 2147483648 the rest; a DRAW is x / 65536.");
        // By x 0 the DRAWS are 0 21468 9988 22117 3498 16927 16045 19741: of 2 the rest 0 0 0 1 0 1 1 1.
        FortyBasket x = Due.shopped("shop 0 0;thing 30 0 9");
        int[] things = {0, 0, 0, 3, 3, 4, 4, 4};
        for (int n = 1; n <= 8; n++) {
            lives(x, 1, n, 30 * things[n - 1], things[n - 1]);
        }
        // Of the greatest x comes 1043980748, a DRAW of 15929.
        x.put(0);
        x.seed(2147483647);
        lives(x, 1, 1, 30, 1);
        x.seed(BUYS_AT_ONCE);
        lives(x, 1, 1, 30, 1);
        x.seed(0);
        lives(x, 1, 1, 0, 0);

        e.of(Edges.TERMS, "YEARS m times (1 to 10) n DAYS (1 to 60) from now on:");
        FortyBasket y = filled("shop 9 90;thing 30 0 3;thing 20 0 5;thing 9 0 9;sale 3 9 50", 2);
        y.day();
        Due.rule(y, "price told+looks-sale/10");
        y.force(0);
        addUp(y);
        // All THINGS there can be.
        Due.shop(y, "shop 9 90" + ";thing 30 0 3;thing 20 0 5".repeat(4));
        addUp(y);
    }

    private void addUp(FortyBasket y) {
        for (int m : new int[] {1, 2, 9, 10}) {
            for (int n : new int[] {1, 2, 59, 60}) {
                // Each of the times is from now on, with the DRAWS that come next.
                int[] due = new int[2];
                int at = 12345;
                for (int i = 0; i < m; i++) {
                    y.seed(at);
                    due[0] += y.years(1, n, 0);
                    due[1] += y.years(1, n, 1);
                    for (int d = 0; d < n; d++) {
                        at = drawn(at);
                    }
                }
                y.seed(12345);
                lives(y, m, n, due[0], due[1]);
            }
        }
    }

    private void yearsDays() {
        e.of(Edges.TERMS, "on each a DRAW mod one more than THINGS there are: that one is LOOKED at and PUT, if it can be (the last number: the basket is bought, if it is not empty, without CODES; those laid stay so); then the DAY: PAID; THINGS bought, all together");
        // LOOKED at three times, and PUT once, for there is but one.
        FortyBasket x = Due.shopped("shop 0 0;thing 30 0 1;off 5 0");
        Due.rule(x, "price 10+looks");
        x.force(0);
        lives(x, 1, 4, 13, 1);
        x.lay(0);
        lives(x, 1, 4, 13, 1);
        e.call(x, 0, "code", 0, 3);
        Due.shop(x, "shop 0 0;thing 30 0 0");
        lives(x, 1, 4, 0, 0);
        // 99 LOOKS at most.
        Due.shop(x, "shop 0 0;thing 30 0 9");
        for (int i = 0; i < 98; i++) {
            x.look(0);
        }
        lives(x, 1, 4, 3 * 109, 3);
        // What is bought is less in STOCK, and had.
        Due.rule(x, "price 100+stock*10+bought");
        x.force(1);
        Due.shop(x, "shop 0 0;thing 30 0 4");
        lives(x, 1, 4, 3 * 140, 3);
        lives(x, 1, 6, 3 * 140 + 113, 4);
        lives(x, 1, 60, 3 * 140 + 113, 4);
        // Nothing is bought of a basket that is empty, on DAY 0; then one.
        FortyBasket y = Due.shopped("shop 7 100;thing 30 0 9;sale 0 0 50;sale 1 1 10;sale 2 2 20;post 0");
        y.seed(BUYS_AT_ONCE);
        lives(y, 1, 1, 0, 0);
        lives(y, 1, 2, 0, 0);
        lives(y, 1, 3, 24 + 7, 1);
        y.put(0);
        y.lay(0);
        lives(y, 1, 1, 15 + 7, 1);
        lives(y, 1, 3, 15 + 7 + 24 + 7, 2);
        y.day();
        lives(y, 1, 1, 27 + 7, 1);
        twelveInYears();
    }

    /** Twelve at most are in the basket when it is bought for the first time. */
    private void twelveInYears() {
        int first = 1;
        for (int at = drawn(0); at / 65536 % 3 != 2; at = drawn(at)) {
            first++;
        }
        e.is("it takes some draws", first > 4 ? 1 : 0, 1);
        FortyBasket x = filled("shop 0 0;thing 5 0 9;thing 5 0 9", 0, 0, 0, 0, 0, 1, 1, 1, 1, 1, 1);
        lives(x, 1, first, 60, 12);
        x.put(0);
        lives(x, 1, first, 60, 12);
        lives(x, 1, first - 1, 0, 0);
    }

    private void yearsRefused() {
        e.of(Edges.TERMS, "(without THINGS nothing is drawn; nothing stays; x as it was).");
        FortyBasket x = Due.shopped("shop 9 9");
        x.seed(5);
        lives(x, 1, 1, 0, 0);
        lives(x, 10, 60, 0, 0);
        e.call(x, 5, "count", 13);
        FortyBasket y = EdgesOfActs.lived();
        y.years(10, 60, 0);
        y.years(10, 60, 1);
        e.call(y, 77, "count", 13);
        e.alike("years", y, EdgesOfActs.lived());

        e.of(34, "NONE without these, or a SHOP.");
        for (int[] args : new int[][] {{0, 1, 0}, {11, 1, 0}, {-1, 1, 0}, {LEAST, 1, 0}, {MOST, 1, 0}, {1, 0, 0}, {1, 61, 0}, {1, -1, 0}, {1, LEAST, 0},
            {1, MOST, 0}, {1, 1, -1}, {1, 1, 2}, {1, 1, LEAST}, {1, 1, MOST}}) {
            e.refused(EdgesOfActs::lived, -1, "years", args);
            e.refused(() -> Due.shopped("shop 0 0"), -1, "years", args);
        }
        e.refused(FortyBasket::new, -1, "years", 1, 1, 0);
        e.refused(FortyBasket::new, -1, "years", 10, 60, 1);
    }
}
