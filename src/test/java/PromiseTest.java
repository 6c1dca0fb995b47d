/** The promises by number; each due answer was worked out from the document by hand. */
public final class PromiseTest {
    private static final Due D = new Due();
    private static final int REFUSED_SUM = -1000000;

    // Three THINGS, three WANTS, half price on DAYS 2 and 3; percent and off do not go together.
    private static final String BIG = "shop 490 4000;thing 3610 4000 3;thing 399 50 5;thing 1000 900 2;"
        + "want 0 2;want 2 9;want 1 0;sale 2 3 50;percent 10 3000;off 500 3500;post 100;alone 0 1;again";

    private static void is(String call, long got, long due) {
        D.is(call, got, due);
    }

    private static void row(String name, int[] got, int... due) {
        D.holds(name + " is " + java.util.Arrays.toString(got) + ", due is " + java.util.Arrays.toString(due),
            java.util.Arrays.equals(got, due));
    }

    private static int[] counts(FortyBasket x) {
        int[] all = new int[15];
        for (int i = 0; i < 15; i++) {
            all[i] = x.count(i);
        }
        return all;
    }

    private static void days(FortyBasket x, int n) {
        for (int i = 0; i < n; i++) {
            x.day();
        }
    }

    private static void promise1() {
        FortyBasket x = new FortyBasket();
        row("1 counts", counts(x), 0, 0, 0, 0, 0, 0, -1, 0, 0, 0, 0, 0, 0, 0, 0);
        is("1 thing", x.thing(0, 0), -1);
        is("1 code", x.code(0, 0), -2);
        is("1 want", x.want(0, 0), -1);
        is("1 dear", x.dear(0, 0, 0), -1);
        is("1 cost", x.cost(0), -1);
        is("1 put", x.put(0), -1);
        is("1 drop", x.drop(0), -1);
        is("1 lay", x.lay(0), -1);
        is("1 lift", x.lift(0), -1);
        is("1 look", x.look(0), -1);
        is("1 buy", x.buy(), -1);
        is("1 sendBack", x.sendBack(0), -1);
        is("1 day", x.day(), -1);
        is("1 undo", x.undo(), -1);
        is("1 order", x.order(0), -3);
        is("1 fill", x.fill(0), REFUSED_SUM);
        is("1 baskets", x.baskets(0), -3);
        is("1 days", x.days(0), -3);
        is("1 sent", x.sent(0), REFUSED_SUM);
        is("1 join", x.join(1), REFUSED_SUM);
        is("1 freedom", x.freedom(0), REFUSED_SUM);
        is("1 receipt", x.receipt(0, 0, 0), -3);
        is("1 told", x.told(0, 0, 0, 1), -2);
        is("1 told none", x.told(-1, 0, 0, 0), 0);
        is("1 ruled", x.ruled(0), -3);
        is("1 probe", x.probe(0, 0, 0), -1);
        is("1 await", x.await(0, 0), -1);
        is("1 years", x.years(1, 1, 0), -1);
        is("1 back", x.back(0), -1);
        is("1 force", x.force(0), -2);
        is("1 force none", x.force(-1), -1);
        is("1 end", x.end(0), 0);
        is("1 constant", FortyBasket.NONE, -1);
    }

    private static void promise2() {
        FortyBasket x = new FortyBasket();
        // "shop 0 0;thing 7 0 0", the highest byte of each number first.
        is("2 feed", x.feed(0x73686f70, 0x20302030, 0x3b746869, 0x6e672037, 0x20302030), 20);
        is("2 shop", x.shop(), 1);
        is("2 price", x.thing(0, 6), 7);
        for (int i = 1; i <= 20; i++) {
            is("2 feed " + i, x.feed(0, 0, 0, 0, 0), 20 * i);
        }
        is("2 feed too much", x.feed(0, 0, 0, 0, 0), -1);
        is("2 length", x.count(14), 400);
        is("2 end", x.end(381), 381);
        is("2 feed too much by one", x.feed(0, 0, 0, 0, 0), -1);
        is("2 length", x.count(14), 381);
        is("2 end", x.end(380), 380);
        is("2 feed just", x.feed(-1, -1, -1, -1, -1), 400);
        FortyBasket y = Due.tape(new FortyBasket(), "shop 0 0");
        y.feed(0x3b616761, 0x696e0000, 0, 0, 0);
        is("2 behind", y.end(14), 14);
        is("2 both", y.shop(), 0);
    }

    private static void promise3() {
        FortyBasket x = new FortyBasket();
        is("3 end 1", x.end(1), -1);
        x.feed(0x73686f70, 0x20302030, 0, 0, 0);
        is("3 end 21", x.end(21), -1);
        is("3 end -1", x.end(-1), -1);
        is("3 end least", x.end(Integer.MIN_VALUE), -1);
        is("3 stays", x.count(14), 20);
        is("3 end 20", x.end(20), 20);
        is("3 end 8", x.end(8), 8);
        is("3 end 9", x.end(9), -1);
        is("3 length", x.count(14), 8);
        is("3 shop", x.shop(), 0);
        is("3 empty", x.count(14), 0);
        is("3 end 0", x.end(0), 0);
    }

    private static void promise4() {
        FortyBasket x = new FortyBasket();
        is("4 shop", Due.shop(x, BIG), 3);
        row("4 counts", counts(x), 490, 4000, 3, 3, 3, 0, -1, 0, 0, 0, 0, 0, 0, 0, 0);
        Due.rule(x, "price told");
        x.force(0);
        x.seed(77);
        x.put(0);
        x.lay(1);
        x.buy();
        x.put(1);
        x.lay(0);
        x.look(1);
        x.day();
        x.told(0, 0, 0, 1);
        row("4 lived", counts(x), 490, 4000, 3, 3, 3, 1, 0, 1, 3600, 1, 1, 1, 7, 77, 0);
        is("4 fault", Due.shop(x, "shop 0 0;shop"), Due.fault(9, 4));
        row("4 all stays", counts(x), 490, 4000, 3, 3, 3, 1, 0, 1, 3600, 1, 1, 1, 7, 77, 0);
        is("4 again", Due.shop(x, BIG), 3);
        row("4 new", counts(x), 490, 4000, 3, 3, 3, 1, 0, 0, 0, 0, 0, 0, 0, 77, 0);
        is("4 looks", x.thing(1, 4), 0);
        is("4 had", x.thing(0, 3), 0);
        is("4 last", x.thing(0, 5), 0);
        is("4 stock", x.thing(0, 1), 3);
        is("4 not used up", x.code(1, 4), 0);
        is("4 not laid", x.code(0, 3), -1);
        is("4 nothing to send back", x.sendBack(0), -1);
        is("4 nothing undone", x.undo(), -1);
        is("4 smaller", Due.shop(x, "shop 1 2"), 0);
        row("4 smaller", counts(x), 1, 2, 0, 0, 0, 1, 0, 0, 0, 0, 0, 0, 0, 77, 0);
    }

    private static void promise5() {
        FortyBasket x = new FortyBasket();
        for (int r = 0; r < 5; r++) {
            is("5 rule", Due.rule(x, "price " + r), r);
            is("5 empty", x.count(14), 0);
        }
        is("5 fault", Due.rule(x, "price x"), Due.fault(6, 0));
        is("5 empty behind a fault", x.count(14), 0);
        is("5 none more", x.count(5), 5);
        is("5 sixth", Due.rule(x, "price 105"), 5);
        is("5 seventh", Due.rule(x, "price 106"), -1);
        is("5 nothing happens", x.count(14), 9);
        is("5 seventh with a fault", Due.rule(x, "x"), -1);
        x.end(0);
        Due.shop(x, "shop 0 0;thing 1 0 0");
        x.force(5);
        is("5 the sixth", x.dear(0, 0, 0), 105);
        x.force(0);
        is("5 the first", x.dear(0, 0, 0), 1);
    }

    private static void promise6() {
        FortyBasket x = new FortyBasket();
        Due.rule(x, "price 11");
        Due.rule(x, "price 22");
        Due.shop(x, "shop 0 0;thing 5 0 0");
        is("6 none", x.thing(0, 0), 5);
        is("6 force 1", x.force(1), -1);
        is("6 by 1", x.thing(0, 0), 22);
        is("6 force 0", x.force(0), 1);
        is("6 by 0", x.thing(0, 0), 11);
        is("6 force 2", x.force(2), -2);
        is("6 force -2", x.force(-2), -2);
        is("6 stays", x.count(6), 0);
        is("6 force none", x.force(-1), 0);
        is("6 none again", x.thing(0, 0), 5);
    }

    private static void promise7() {
        FortyBasket x = Due.shopped(BIG);
        x.put(2);
        x.put(2);
        x.buy();
        x.put(1);
        x.look(2);
        x.look(2);
        x.sendBack(2);
        days(x, 2);
        int[] of2 = new int[8];
        for (int i = 0; i < 8; i++) {
            of2[i] = x.thing(2, i);
        }
        row("7 thing 2", of2, 500, 1, 0, 1, 2, 1, 1000, 900);
        is("7 in the basket", x.thing(1, 2), 1);
        is("7 what 8", x.thing(0, 8), -1);
        is("7 what -1", x.thing(0, -1), -1);
        is("7 thing 3", x.thing(3, 0), -1);
        is("7 thing -1", x.thing(-1, 0), -1);
    }

    private static void promise8() {
        FortyBasket x = Due.shopped(BIG + ";off 7 8");
        int[][] due = {{0, 10, 3000, -1, 0, 2}, {1, 500, 3500, -1, 0, 1}, {2, 0, 100, -1, 0, 0}, {1, 7, 8, -1, 0, 0}};
        for (int c = 0; c < 4; c++) {
            for (int i = 0; i < 6; i++) {
                is("8 code " + c + " " + i, x.code(c, i), due[c][i]);
            }
        }
        x.lay(2);
        x.lay(0);
        is("8 second", x.code(0, 3), 1);
        is("8 first", x.code(2, 3), 0);
        x.put(0);
        x.buy();
        is("8 used", x.code(0, 4), 1);
        is("8 no more laid", x.code(0, 3), -1);
        is("8 not used", x.code(1, 4), 0);
        is("8 code 4", x.code(4, 0), -2);
        is("8 code -1", x.code(-1, 0), -2);
        is("8 what 6", x.code(0, 6), -2);
        is("8 what -1", x.code(0, -1), -2);
        FortyBasket y = Due.shopped("shop 0 0;post 0;post 0;post 0;alone 2 0;alone 0 1;alone 0 1");
        is("8 alone with two", y.code(0, 5), 6);
        is("8 alone with one", y.code(2, 5), 1);
    }

    private static void promise9() {
        FortyBasket x = Due.shopped(BIG);
        is("9 thing", x.want(1, 0), 2);
        is("9 day", x.want(1, 1), 9);
        is("9 day 0", x.want(2, 1), 0);
        is("9 want 3", x.want(3, 0), -1);
        is("9 want -1", x.want(-1, 0), -1);
        is("9 what 2", x.want(0, 2), -1);
        is("9 what -1", x.want(0, -1), -1);
    }

    private static void by(String text, int due) {
        FortyBasket y = new FortyBasket();
        Due.rule(y, text);
        Due.shop(y, "shop 0 0;thing 700 31 4;thing 250 11 9;sale 5 9 20;sale 7 7 50");
        y.force(0);
        is("10 " + text, y.dear(1, 7, 3), due);
    }

    private static void promise10Sums() {
        by("price 42", 42);
        by("price 0", 1);
        by("price 10000", 9999);
        by("price 9999", 9999);
        by("price 1-5", 1);
        by("price thing*1000+sale", 1050);
        by("price told+day*1000", 7250);
        by("price looks*1000+stock*100+worth", 3911);
        by("price bought+5", 5);
        by("price 100-50-30", 20);
        by("price 100-50+30", 80);
        by("price 2+3*4", 14);
        by("price 100/7*7", 98);
        by("price 100*7/8%6", 3);
        by("price 7/0+5", 5);
        by("price 7%0+5", 5);
        by("price 00012", 12);
        // 99999 * 99999 * 99999 * 99999 * 2 goes round to -2922184690805867774.
        by("price 5000 + 99999*99999*99999*99999*2%1000", 5000 - 774);
        by("price 5000 + 99999*99999*99999*99999*2/99999/99999/99999", 5000 - 2922);
        by("price 99999*99999*99999*99999*2", 1);
        by("price 99999*99999*99999*99999", 9999);
    }

    private static void promise10Tests() {
        by("price 5 if 1 < 1;price 6 if 1 <= 1;price 7", 6);
        by("price 5 if 1 > 1;price 6 if 1 >= 1;price 7", 6);
        by("price 5 if 1 = 2;price 6 if 2 > 1", 6);
        by("price 5 if 1 = 2", 1);
        by("price 5;price 6", 5);
        by("price 5 if 1 = 1 or 1 = 1 and 1 = 2;price 6", 5);
        by("price 5 if [1 = 1 or 1 = 1] and 1 = 2;price 6", 6);
        by("price 5 if 1 = 2 and 1 = 1 or 1 = 1;price 6", 5);
        by("price 5 if not 1 = 2;price 6", 5);
        by("price 5 if not 1 = 1 or 1 = 1;price 6", 5);
        by("price 5 if not [1 = 1 or 1 = 1];price 6", 6);
        by("price 5 if not not 1 = 1;price 6", 5);
        by("price 5 if not 1 = 1 and 1 = 2;price 6", 6);
        by("price 5 if 1 = 1 and 2 = 2 and 3 = 3;price 6", 5);
        by("price 5 if 1 = 1 and 2 = 2 and 3 = 4;price 6", 6);
        by("price 5 if 1 + 2 * 3 = 7;price 6", 5);
        by("price 5 if 0 - 1 < 0;price 6", 5);
        by("price 5 if looks >= 3 and sale = 50 and day = 7;price 6", 5);
        by("price 5 if told < worth;price looks", 3);
    }

    private static void promise10() {
        promise10Sums();
        promise10Tests();
        FortyBasket x = Due.shopped("shop 0 0;thing 700 31 4;thing 5 0 9;sale 5 9 20;sale 7 7 50;sale 99 99 90");
        is("10 told", x.dear(0, 4, 0), 700);
        is("10 sale", x.dear(0, 5, 0), 560);
        is("10 the last told", x.dear(0, 7, 0), 350);
        is("10 behind it", x.dear(0, 8, 0), 560);
        is("10 over", x.dear(0, 10, 0), 700);
        is("10 last of sales", x.dear(0, 99, 0), 70);
        is("10 day 999", x.dear(0, 999, 99), 700);
        // 90 percent of 5 are 4.5: 4 are taken off.
        is("10 downwards", x.dear(1, 99, 0), 1);
        is("10 downwards 20", x.dear(1, 5, 0), 4);
        is("10 day 1000", x.dear(0, 1000, 0), -1);
        is("10 day -1", x.dear(0, -1, 0), -1);
        is("10 looks 100", x.dear(0, 0, 100), -1);
        is("10 looks -1", x.dear(0, 0, -1), -1);
        is("10 thing 2", x.dear(2, 0, 0), -1);
        is("10 thing -1", x.dear(-1, 0, 0), -1);
        Due.rule(x, "price stock*10+bought");
        x.force(0);
        is("10 stock", x.dear(0, 500, 5), 40);
        x.put(0);
        x.put(0);
        x.buy();
        is("10 stock, bought", x.dear(0, 500, 5), 22);
        x.sendBack(0);
        is("10 sent back", x.dear(0, 500, 5), 31);
    }

    private static void promise11() {
        FortyBasket x = Due.shopped(BIG);
        is("11 nothing", x.cost(0), 0);
        is("11 nothing carried", x.cost(1), 0);
        x.put(0);
        is("11 below", x.cost(0), 4100);
        is("11 carriage", x.cost(1), 490);
        x.put(1);
        is("11 free", x.cost(0), 4009);
        is("11 no carriage", x.cost(1), 0);
        x.lay(0);
        // 10 percent of 4009 are 400 downwards: 3609 is below 4000 again.
        is("11 percent", x.cost(0), 4099);
        is("11 percent carriage", x.cost(1), 490);
        x.lay(2);
        is("11 post", x.cost(0), 3609);
        is("11 post carriage", x.cost(1), 0);
        x.drop(0);
        // 399 is below what the percent asks; the post asks 100.
        is("11 percent does nothing", x.cost(0), 399);
        is("11 what 2", x.cost(2), -1);
        is("11 what -1", x.cost(-1), -1);
        FortyBasket y = Due.shopped("shop 50 100;thing 30 0 9;off 100 0;post 1");
        y.put(0);
        y.lay(0);
        is("11 nothing left", y.cost(0), 50);
        y.lay(1);
        is("11 post asks 1", y.cost(0), 50);
        y.lift(0);
        y.lay(0);
        is("11 post first", y.cost(0), 0);
        FortyBasket z = Due.shopped("shop 50 100;thing 100 0 9;percent 1 100;percent 90 100");
        z.put(0);
        is("11 just free", z.cost(0), 100);
        z.lay(0);
        is("11 just from", z.cost(0), 149);
        z.lay(1);
        is("11 the sum then", z.cost(0), 149);
    }

    private static void promise12() {
        FortyBasket x = Due.shopped("shop 0 0;thing 1 0 2;thing 1 0 9;thing 1 0 0;thing 1 0 9");
        is("12 put", x.put(0), 1);
        is("12 put", x.put(0), 2);
        is("12 no stock", x.put(0), -1);
        is("12 never stock", x.put(2), -1);
        is("12 thing 4", x.put(4), -1);
        is("12 thing -1", x.put(-1), -1);
        is("12 acts", x.count(12), 2);
        for (int i = 1; i <= 9; i++) {
            is("12 put 1", x.put(1), i);
        }
        is("12 tenth", x.put(1), -1);
        is("12 twelfth", x.put(3), 1);
        is("12 thirteenth", x.put(3), -1);
        is("12 all", x.count(9), 12);
        x.drop(0);
        is("12 again", x.put(3), 2);
    }

    private static void promise13() {
        FortyBasket x = Due.shopped(BIG);
        is("13 none", x.drop(0), -1);
        x.put(0);
        x.put(0);
        is("13 drop", x.drop(0), 1);
        is("13 drop", x.drop(0), 0);
        is("13 drop", x.drop(0), -1);
        is("13 thing 3", x.drop(3), -1);
        is("13 thing -1", x.drop(-1), -1);
        is("13 acts", x.count(12), 4);
        is("13 stock", x.thing(0, 1), 3);
    }

    private static void promise14() {
        FortyBasket x = Due.shopped(BIG);
        is("14 lay", x.lay(0), 1);
        is("14 twice", x.lay(0), -1);
        is("14 alone", x.lay(1), -1);
        is("14 second", x.lay(2), 2);
        is("14 code 3", x.lay(3), -1);
        is("14 code -1", x.lay(-1), -1);
        is("14 laid", x.count(10), 2);
        is("14 acts", x.count(12), 2);
        x.put(0);
        x.buy();
        is("14 used up", x.lay(0), -1);
        is("14 no more alone", x.lay(1), 1);
    }

    private static void promise15() {
        FortyBasket x = Due.shopped("shop 0 0;post 0;post 0;post 0;post 0");
        x.lay(3);
        x.lay(1);
        x.lay(0);
        is("15 not laid", x.lift(2), -1);
        is("15 code 4", x.lift(4), -1);
        is("15 code -1", x.lift(-1), -1);
        is("15 lift", x.lift(1), 2);
        is("15 first", x.code(3, 3), 0);
        is("15 moves up", x.code(0, 3), 1);
        is("15 gone", x.code(1, 3), -1);
        is("15 twice", x.lift(1), -1);
        is("15 behind", x.lay(1), 3);
        is("15 last", x.code(1, 3), 2);
        is("15 acts", x.count(12), 5);
    }

    private static void promise16() {
        FortyBasket x = Due.shopped(BIG);
        is("16 look", x.look(0), 3610);
        Due.rule(x, "price told + looks * 2");
        x.force(0);
        is("16 look", x.look(0), 3614);
        is("16 other", x.look(1), 401);
        is("16 looks", x.thing(0, 4), 2);
        is("16 thing 3", x.look(3), -1);
        is("16 thing -1", x.look(-1), -1);
        is("16 acts", x.count(12), 3);
        for (int i = 3; i <= 99; i++) {
            is("16 look " + i, x.look(0), 3610 + 2 * i);
        }
        is("16 at most", x.look(0), 3610 + 198);
        is("16 at most", x.thing(0, 4), 99);
    }

    private static void promise17() {
        FortyBasket x = Due.shopped(BIG);
        is("17 empty", x.buy(), -1);
        is("17 no act", x.count(12), 0);
        x.put(0);
        x.lay(1);
        x.lay(2);
        is("17 buy", x.buy(), 3110);
        is("17 paid", x.count(8), 3110);
        is("17 stock", x.thing(0, 1), 2);
        is("17 had", x.thing(0, 3), 1);
        is("17 last", x.thing(0, 5), 1);
        is("17 basket", x.count(9), 0);
        is("17 laid", x.count(10), 0);
        is("17 used", x.code(1, 4) + x.code(2, 4) * 2 + x.code(0, 4) * 4, 3);
        is("17 empty", x.buy(), -1);
        x.put(1);
        is("17 again", x.buy(), 889);
        is("17 both", x.count(8), 3999);
        is("17 last no more", x.thing(0, 5), 0);
        is("17 had still", x.thing(0, 3), 1);
        is("17 acts", x.count(12), 6);
    }

    private static void promise18() {
        FortyBasket x = Due.shopped(BIG);
        x.put(0);
        x.put(1);
        is("18 buy", x.buy(), 4009);
        is("18 none of it", x.sendBack(2), -1);
        is("18 thing 3", x.sendBack(3), -1);
        is("18 thing -1", x.sendBack(-1), -1);
        // What is left COSTS 3610 + 490, more than was paid.
        is("18 again", x.sendBack(1), 0);
        is("18 no more", x.sendBack(1), -1);
        is("18 stock", x.thing(1, 1), 5);
        is("18 had", x.thing(1, 3), 0);
        is("18 last", x.thing(1, 5), 0);
        is("18 all", x.sendBack(0), 4009);
        is("18 paid", x.count(8), 0);
        is("18 acts", x.count(12), 5);

        // By its CODES and at its prices: 300 less 100 are 200; one back leaves 200 less 100.
        FortyBasket y = Due.shopped("shop 10 100;thing 100 0 9;off 100 200;sale 1 1 50;again");
        y.put(0);
        y.put(0);
        y.put(0);
        y.lay(0);
        is("18 codes", y.buy(), 200);
        y.day();
        is("18 its codes", y.sendBack(0), 100);
        // 100 is below what the off asks.
        is("18 no code", y.sendBack(0), 0);
        is("18 last of it", y.sendBack(0), 100);
        is("18 paid", y.count(8), 0);

        FortyBasket z = Due.shopped("shop 10 500;thing 100 0 9;thing 7 0 9;percent 50 0;sale 1 1 50");
        z.day();
        z.put(0);
        z.put(0);
        z.put(1);
        z.lay(0);
        // 50 + 50 + 4, half of it, carried.
        is("18 sale", z.buy(), 62);
        z.day();
        is("18 that day", z.sendBack(0), 50);
        is("18 that day", z.sendBack(1), 4);
        is("18 that day", z.sendBack(0), 50);
        is("18 more than was paid", z.count(8), -42);
        for (int i = 0; i < 9; i++) {
            z.put(1);
        }
        z.buy();
        is("18 stock", z.thing(1, 1), 0);
    }

    private static void promise19() {
        FortyBasket x = Due.shopped(BIG);
        is("19 day 1", x.day(), 0);
        is("19 day 2", x.day(), 50);
        is("19 day 3", x.day(), 50);
        is("19 day 4", x.day(), 0);
        is("19 day", x.count(7), 4);
        is("19 acts", x.count(12), 4);
        FortyBasket y = Due.shopped("shop 0 0");
        for (int i = 1; i <= 999; i++) {
            y.day();
        }
        is("19 day 999", y.count(7), 999);
        is("19 no more", y.day(), -1);
        is("19 day 999", y.count(7), 999);
    }

    private static void promise20() {
        FortyBasket x = Due.shopped(BIG);
        x.put(0);
        x.lay(1);
        x.look(0);
        x.buy();
        x.put(1);
        x.sendBack(0);
        x.day();
        x.lay(0);
        x.lift(0);
        x.drop(1);
        x.force(-1);
        x.seed(5);
        x.told(0, 0, 0, 1);
        is("20 undo drop", x.undo(), 9);
        is("20 dropped", x.thing(1, 2), 1);
        is("20 undo lift", x.undo(), 8);
        is("20 lifted", x.code(0, 3), 0);
        is("20 undo lay", x.undo(), 7);
        is("20 laid", x.count(10), 0);
        is("20 undo day", x.undo(), 6);
        is("20 day", x.count(7), 0);
        is("20 paid", x.count(8), 0);
        is("20 undo send back", x.undo(), 5);
        is("20 paid", x.count(8), 3600);
        is("20 last", x.thing(0, 5), 1);
        is("20 stock", x.thing(0, 1), 2);
        is("20 had", x.thing(0, 3), 1);
        is("20 undo put", x.undo(), 4);
        is("20 put", x.count(9), 0);
        is("20 undo buy", x.undo(), 3);
        is("20 basket", x.thing(0, 2), 1);
        is("20 stock", x.thing(0, 1), 3);
        is("20 not used", x.code(1, 4), 0);
        is("20 laid", x.code(1, 3), 0);
        is("20 paid", x.count(8), 0);
        is("20 last", x.thing(0, 5), 0);
        is("20 looks", x.thing(0, 4), 1);
        is("20 undo look", x.undo(), 2);
        is("20 looks", x.thing(0, 4), 0);
        is("20 x stays", x.count(13), 5);
        is("20 prices stay", x.count(11), 1);
        x.look(1);
        is("20 three", x.count(12), 3);
        x.undo();
        x.undo();
        is("20 undo put", x.undo(), 0);
        is("20 none", x.undo(), -1);
        for (int i = 0; i < 23; i++) {
            x.look(0);
        }
        is("20 at most", x.count(12), 20);
        for (int i = 19; i >= 0; i--) {
            is("20 undo " + i, x.undo(), i);
        }
        is("20 none", x.undo(), -1);
        is("20 three stay", x.thing(0, 4), 3);
    }

    private static void promise20Last() {
        FortyBasket x = Due.shopped("shop 0 0;thing 100 0 9;thing 70 0 9;off 30 0;off 1 0;sale 1 1 50;again");
        x.put(0);
        x.put(1);
        x.lay(0);
        is("20 first", x.buy(), 140);
        x.image(0);
        x.day();
        x.put(0);
        x.lay(1);
        is("20 second", x.buy(), 49);
        x.undo();
        // The first is the LAST one again, at its prices and with its code: 140 - (100 - 30).
        is("20 the last one again", x.sendBack(1), 70);
        is("20 and the rest", x.sendBack(0), 70);
        x.back(0);
        is("37 the last one again", x.sendBack(0), 100);
        is("37 and the rest", x.sendBack(1), 40);
    }

    private static int[] order(FortyBasket x) {
        return new int[] {x.order(0), x.order(1), x.order(2), x.order(3), x.order(4), x.order(5)};
    }

    private static void promise21() {
        FortyBasket x = Due.shopped(BIG);
        row("21 nothing", order(x), 0, -2, -2, -2, -2, -2);
        x.put(0);
        // 3610 less 500, no carriage; the row 2 1 COSTS the same.
        row("21 basket", order(x), 3110, 1, 2, -2, -2, -2);
        x.lay(0);
        row("21 laid or not", order(x), 3110, 1, 2, -2, -2, -2);
        is("21 nothing changes", x.cost(0), 3739);
        x.lift(0);
        x.lay(2);
        x.buy();
        x.put(0);
        row("21 used up", order(x), 3600, 1, -2, -2, -2, -2);
        is("21 what 6", x.order(6), -3);
        is("21 what -1", x.order(-1), -3);
        FortyBasket y = Due.shopped("shop 100 9999;thing 1000 0 9;percent 20 900;off 300 900");
        y.put(0);
        // Behind the off the percent does nothing: the shorter row is ahead.
        row("21 shorter", order(y), 800, 1, -2, -2, -2, -2);
        FortyBasket z = Due.shopped("shop 0 0;thing 1000 0 9;off 100 0;percent 50 0;off 100 0;percent 10 0;off 100 0");
        z.put(0);
        // Percents first: 1000, 500, 450, then 300 off; 1 3 as good as 3 1.
        row("21 all five", order(z), 150, 1, 3, 0, 2, 4);
    }

    private static int[] fill(FortyBasket x) {
        return new int[] {x.fill(0), x.fill(1), x.fill(2), x.fill(3)};
    }

    private static void promise22() {
        FortyBasket x = Due.shopped(BIG);
        x.put(0);
        // Two more of THING 0: 10830 - 8000; a third one is not in STOCK.
        row("22 fill", fill(x), 2830, 0, 0, -2);
        is("22 nothing changes", x.count(9), 1);
        is("22 what 4", x.fill(4), REFUSED_SUM);
        is("22 what -1", x.fill(-1), REFUSED_SUM);
        FortyBasket y = Due.shopped("shop 150 1000;thing 900 0 1;thing 100 0 9;thing 120 20 9;thing 50 0 9");
        y.put(0);
        // 1000 by THING 1; by THING 2 1020 - 20; by two of THING 3 as well: the first of the fewest.
        row("22 the first", fill(y), 1000, 1, -2, -2);
        FortyBasket z = Due.shopped("shop 100 1000;thing 900 0 1;thing 90 0 9;thing 10 0 9");
        z.put(0);
        // With nothing more 1000, too: the fewest.
        row("22 the fewest", fill(z), 1000, -2, -2, -2);
        FortyBasket v = Due.shopped("shop 0 0;thing 100 300 9;thing 10 300 2;thing 1 0 0");
        row("22 below 0", fill(v), -780, 0, 1, 1);
        for (int i = 0; i < 9; i++) {
            v.put(0);
        }
        v.put(1);
        // Ten are in it: two more at most, of THING 1 one.
        row("22 stock", fill(v), 910 + 10 - 300, 1, -2, -2);
        FortyBasket u = Due.shopped("shop 0 0;thing 10 300 9;thing 10 100 9");
        for (int i = 0; i < 9; i++) {
            u.put(0);
        }
        u.put(1);
        u.put(1);
        row("22 twelve", fill(u), 120 - 100, 1, -2, -2);
        u.put(1);
        row("22 full", fill(u), 120, -2, -2, -2);
        FortyBasket w = Due.shopped("shop 0 0;thing 100 0 9;thing 10 0 9;off 50 110");
        w.put(0);
        w.lay(0);
        row("22 codes as laid", fill(w), 60, 1, -2, -2);
        row("22 no things", fill(Due.shopped("shop 5 5")), 0, -2, -2, -2);
    }

    private static void promise23() {
        FortyBasket x = Due.shopped(BIG);
        int[] got = new int[8];
        for (int i = 0; i < 8; i++) {
            got[i] = x.baskets(i);
        }
        row("23 free", got, 5009, 0, 0, 0, -2, -2, -2, 1);
        x.day();
        x.day();
        // 1805 + 500 + 199 (half of 399 is 199 downwards: 200 are left): below 4000.
        is("23 sale", x.baskets(0), 1805 + 500 + 200 + 490);
        is("23 what 8", x.baskets(8), -3);
        is("23 what -1", x.baskets(-1), -3);
        FortyBasket y = Due.shopped("shop 490 4000;thing 1 1 1");
        is("23 no wants", y.baskets(0), 0);
        is("23 no want", y.baskets(1), -2);
        is("23 no baskets", y.baskets(7), 0);
        FortyBasket z = Due.shopped("shop 9 100;thing 60 0 0;want 0 0;want 0 0;want 0 1;want 0 0;want 0 0;want 0 0");
        is("23 stock is not asked", z.baskets(0), 360);
        is("23 the sixth", z.baskets(6), 0);
    }

    private static int[] daysRow(FortyBasket x) {
        int[] got = new int[7];
        for (int i = 0; i < 7; i++) {
            got[i] = x.days(i);
        }
        return got;
    }

    private static void promise24() {
        FortyBasket x = Due.shopped(BIG);
        // 399 + 490 today; 1805 + 500 + 490 on DAY 2.
        row("24 days", daysRow(x), 3684, 2, 2, 0, -2, -2, -2);
        x.day();
        row("24 late", daysRow(x), 3684, 1, 1, 0, -2, -2, -2);
        days(x, 2);
        row("24 day 3", daysRow(x), 1805 + 500 + 200 + 490, 0, 0, 0, -2, -2, -2);
        is("24 what 7", x.days(7), -3);
        is("24 what -1", x.days(-1), -3);
        row("24 no wants", daysRow(Due.shopped("shop 9 9")), 0, -2, -2, -2, -2, -2, -2);
        FortyBasket y = Due.shopped("shop 0 0;thing 100 0 0;want 0 30;want 0 4;want 0 3;sale 4 4 50;sale 5 9 90");
        // DAY 5 is one too far; DAY 4 is behind that by which the third is wanted.
        row("24 four days", daysRow(y), 200, 4, 4, 0, -2, -2, -2);
        FortyBasket z = Due.shopped("shop 10 100;thing 60 0 0;thing 50 0 0;want 0 9;want 1 9;want 0 9");
        // All on one DAY, today as well as another.
        row("24 the first", daysRow(z), 170, 0, 0, 0, -2, -2, -2);
    }

    private static int[] sent(FortyBasket x) {
        int[] got = new int[9];
        for (int i = 0; i < 9; i++) {
            got[i] = x.sent(i);
        }
        return got;
    }

    private static void promise25() {
        FortyBasket x = Due.shopped(BIG);
        row("25 nothing bought", sent(x), 0, 0, 0, 0, -2, -2, -2, -2, -2);
        x.put(0);
        x.put(1);
        x.buy();
        // By again THING 1 alone brings nothing, both 4009 - 4050.
        row("25 none", sent(x), 0, 0, 0, 0, -2, -2, -2, -2, -2);
        is("25 what 9", x.sent(9), REFUSED_SUM);
        is("25 what -1", x.sent(-1), REFUSED_SUM);
        FortyBasket y = Due.shopped("shop 7 999;thing 100 60 5;thing 50 50 5;thing 30 80 5");
        y.put(0);
        y.put(0);
        y.put(1);
        y.put(2);
        y.buy();
        row("25 each for itself", sent(y), 80, 2, 0, 0, -2, -2, -2, -2, -2);
        is("25 nothing changes", y.thing(0, 5), 2);
        y.sendBack(0);
        row("25 one is sent", sent(y), 40, 1, 0, 0, -2, -2, -2, -2, -2);
        FortyBasket z = Due.shopped("shop 0 0;thing 50 10 1;thing 50 10 1;off 60 0;again");
        z.put(0);
        z.put(1);
        z.lay(0);
        is("25 paid", z.buy(), 40);
        // Either alone brings 40, for what is left COSTS nothing; 0 of THING 0 is the first row.
        row("25 the first", sent(z), 30, 0, 1, -2, -2, -2, -2, -2, -2);
        z.sendBack(1);
        row("25 nothing is left to bring", sent(z), 0, 0, 0, -2, -2, -2, -2, -2, -2);
        FortyBasket u = Due.shopped("shop 0 0;thing 100 20 1;thing 50 10 2;off 100 0;again");
        u.put(0);
        u.put(1);
        u.put(1);
        u.lay(0);
        is("25 paid", u.buy(), 100);
        // THING 0 alone brings 100 - 20, both of THING 1 100 - 20, too: the fewest.
        row("25 the fewest", sent(u), 80, 1, 0, -2, -2, -2, -2, -2, -2);
        FortyBasket v = Due.shopped("shop 30 50;thing 10 2 1;thing 25 1 2;again");
        v.put(0);
        v.put(1);
        v.put(1);
        v.buy();
        // 60 paid. All: 10, then 0 for the one, then 50: 60 - 4.
        row("25 all", sent(v), 56, 1, 2, -2, -2, -2, -2, -2, -2);
        is("25 as by acts", v.sendBack(0), 10);
        is("25 as by acts", v.sendBack(1), 0);
        is("25 as by acts", v.sendBack(1), 50);
    }

    private static void promise26() {
        FortyBasket x = Due.shopped(BIG);
        is("26 empty", x.join(100), 0);
        x.put(1);
        is("26 one carriage", x.join(100), 490);
        is("26 both", x.join(3601), 980);
        is("26 not quite", x.join(3600), 490);
        is("26 the other is free", x.join(4000), 490);
        x.drop(1);
        x.lay(0);
        // 5000 less 10 percent, in place of 5000.
        is("26 codes", x.join(5000), 500);
        x.put(0);
        // 3739 and 990; 4110 less 411 and 490.
        is("26 ahead of codes", x.join(500), 540);
        is("26 sum 0", x.join(0), REFUSED_SUM);
        is("26 sum 1", x.join(1), 490);
        is("26 sum 9999", x.join(9999), 3739 + 9999 - (13609 - 1360));
        is("26 sum 10000", x.join(10000), REFUSED_SUM);
        is("26 sum -1", x.join(-1), REFUSED_SUM);
    }

    private static void promise27() {
        FortyBasket x = Due.shopped("shop 100 7777;thing 600 0 5;thing 450 399 5");
        x.put(0);
        // Free from 1000 on one THING 1 is filled up: 1050, less 199 of it.
        is("27 free", x.freedom(0), 1000);
        is("27 how much", x.freedom(1), 851);
        FortyBasket y = Due.shopped("shop 100 7777;thing 600 0 5;thing 450 401 5");
        y.put(0);
        // From 1500 on two are: 1500, less one half of 802.
        is("27 free", y.freedom(0), 1500);
        is("27 how much", y.freedom(1), 1099);
        is("27 nothing changes", y.count(1), 7777);
        is("27 what 2", y.freedom(2), REFUSED_SUM);
        is("27 what -1", y.freedom(-1), REFUSED_SUM);
        FortyBasket z = Due.shopped("shop 100 0;thing 600 0 1");
        is("27 empty", z.freedom(0), 0);
        is("27 empty", z.freedom(1), 0);
        z.put(0);
        // From 1000 on it is carried.
        is("27 the least", z.freedom(0), 1000);
        is("27 carried", z.freedom(1), 700);
        FortyBasket u = Due.shopped("shop 100 0;thing 4600 0 2");
        u.put(0);
        u.put(0);
        is("27 the greatest", u.freedom(0), 9500);
        is("27 the greatest", u.freedom(1), 9300);
        FortyBasket v = Due.shopped("shop 100 0;thing 5000 0 2;thing 10 5000 9");
        v.put(0);
        v.put(0);
        // Three of THING 1 are filled up in any case, and it is always free.
        is("27 always free", v.freedom(0), 0);
        is("27 always free", v.freedom(1), 10030 - 7500);
    }

    private static int[] receipt(FortyBasket x, int sum, int day) {
        int[] got = new int[6];
        for (int i = 0; i < 6; i++) {
            got[i] = x.receipt(sum, day, i);
        }
        return got;
    }

    private static void promise28() {
        FortyBasket x = Due.shopped("shop 10 100;thing 30 0 0;thing 60 0 0;thing 20 0 0;sale 5 5 50;post 0");
        x.lay(0);
        // 90 and carriage: 01, 000, 0222; 100: 122, 0022.
        row("28 100", receipt(x, 100, 0), 5, 0, 1, -2, -2, 0);
        row("28 30", receipt(x, 30, 0), 1, 2, -2, -2, -2, 4);
        row("28 80", receipt(x, 80, 0), 1, 0, 2, 2, -2, 5);
        row("28 130", receipt(x, 130, 0), 1, 0, 1, 2, 2, 7);
        // 012, 0002.
        row("28 110", receipt(x, 110, 0), 2, 0, 1, 2, -2, 5);
        row("28 120", receipt(x, 120, 0), 4, 1, 1, -2, -2, 0);
        row("28 0", receipt(x, 0, 0), 0, -2, -2, -2, -2, 0);
        row("28 day 5", receipt(x, 20, 5), 1, 2, -2, -2, -2, 4);
        row("28 30000", receipt(x, 30000, 99), 0, -2, -2, -2, -2, 0);
        is("28 sum -1", x.receipt(-1, 0, 0), -3);
        is("28 sum 30001", x.receipt(30001, 0, 0), -3);
        is("28 day -1", x.receipt(30, -1, 0), -3);
        is("28 day 100", x.receipt(30, 100, 0), -3);
        is("28 what 6", x.receipt(30, 0, 6), -3);
        is("28 what -1", x.receipt(30, 0, -1), -3);
        is("28 no things", Due.shopped("shop 0 0").receipt(0, 0, 0), 0);
    }

    private static FortyBasket threeRules() {
        FortyBasket x = Due.shopped("shop 0 0;thing 100 0 9;thing 7 0 9");
        Due.rule(x, "price told + looks");
        Due.rule(x, "price told + looks * 2");
        Due.rule(x, "price told if looks < 3; price told + 5");
        return x;
    }

    private static void promise29() {
        FortyBasket x = threeRules();
        is("29 thing 2", x.told(2, 0, 0, 1), -2);
        is("29 thing -2", x.told(-2, 0, 0, 1), -2);
        is("29 day 100", x.told(0, 100, 0, 1), -2);
        is("29 day -1", x.told(0, -1, 0, 1), -2);
        is("29 looks 100", x.told(0, 0, 100, 1), -2);
        is("29 looks -1", x.told(0, 0, -1, 1), -2);
        is("29 dear 0", x.told(0, 0, 0, 0), -2);
        is("29 dear 10000", x.told(0, 0, 0, 10000), -2);
        is("29 none", x.count(11), 0);
        for (int i = 1; i <= 10; i++) {
            is("29 told", x.told(1, 99, 99, 9999), i);
        }
        is("29 eleventh", x.told(0, 0, 0, 1), -2);
        is("29 ten", x.count(11), 10);
        is("29 no act", x.count(12), 0);
        is("29 none", x.told(-1, 500, 500, 0), 0);
        is("29 none", x.count(11), 0);
        is("29 first", x.told(0, 0, 0, 1), 1);
    }

    private static void promise30() {
        FortyBasket x = threeRules();
        is("30 all", x.ruled(0), 4);
        is("30 none ahead", x.ruled(1), -1);
        x.told(0, 0, 0, 100);
        is("30 all", x.ruled(0), 4);
        x.told(0, 5, 2, 102);
        is("30 one", x.ruled(0), 1);
        is("30 rule 0", x.ruled(1), 0);
        x.told(-1, 0, 0, 0);
        x.told(1, 5, 3, 12);
        is("30 rule 2", x.ruled(1), 2);
        x.told(1, 5, 3, 13);
        is("30 none such", x.ruled(0), 0);
        is("30 none such", x.ruled(1), -2);
        x.told(-1, 0, 0, 0);
        x.told(0, 0, 2, 100);
        is("30 none and 2", x.ruled(0), 2);
        is("30 none", x.ruled(1), -1);
        is("30 what 2", x.ruled(2), -3);
        is("30 what -1", x.ruled(-1), -3);
        x.force(1);
        is("30 whatever is in force", x.ruled(0), 2);
    }

    private static void promise31() {
        FortyBasket x = threeRules();
        // 100, 103, 106, 105 by three LOOKS.
        is("31 looks", x.probe(0, 0, 0), 3);
        is("31 one", x.probe(0, 0, 1), 1);
        Due.rule(x, "price told + looks");
        // Rules 0 and 3 are always alike: two at least, by one LOOK already.
        is("31 looks", x.probe(0, 0, 0), 1);
        is("31 two", x.probe(0, 0, 1), 2);
        x.told(0, 0, 1, 101);
        is("31 looks", x.probe(0, 0, 0), 0);
        is("31 two", x.probe(0, 0, 1), 2);
        x.told(0, 0, 1, 102);
        is("31 no rule", x.probe(0, 0, 0), -2);
        is("31 no rule", x.probe(0, 99, 1), -2);
        is("31 thing 2", x.probe(2, 0, 0), -1);
        is("31 thing -1", x.probe(-1, 0, 0), -1);
        is("31 day 100", x.probe(0, 100, 0), -1);
        is("31 day -1", x.probe(0, -1, 0), -1);
        is("31 what 2", x.probe(0, 0, 2), -1);
        is("31 what -1", x.probe(0, 0, -1), -1);
        FortyBasket y = Due.shopped("shop 0 0;thing 100 0 9");
        Due.rule(y, "price told if looks < 9; price 1");
        is("31 nine looks", y.probe(0, 0, 0), 9);
        FortyBasket z = Due.shopped("shop 0 0;thing 100 0 9");
        Due.rule(z, "price told if looks < 10; price 1");
        is("31 ten are too many", z.probe(0, 0, 0), 0);
        is("31 ten are too many", z.probe(0, 0, 1), 2);
    }

    private static void promise32() {
        FortyBasket x = Due.shopped(BIG);
        is("32 day", x.await(0, 0), 2);
        is("32 dear", x.await(0, 1), 1805);
        days(x, 3);
        is("32 now", x.await(0, 0), 3);
        x.day();
        is("32 over", x.await(0, 0), 4);
        is("32 over", x.await(0, 1), 3610);
        is("32 thing 3", x.await(3, 0), -1);
        is("32 thing -1", x.await(-1, 0), -1);
        is("32 what 2", x.await(0, 2), -1);
        is("32 what -1", x.await(0, -1), -1);
        FortyBasket y = Due.shopped("shop 0 0;thing 100 0 9;sale 31 31 50");
        is("32 too far", y.await(0, 0), 0);
        y.day();
        is("32 the next 30", y.await(0, 0), 31);
    }

    private static void promise33() {
        FortyBasket x = new FortyBasket();
        is("33 seed", x.seed(5), 0);
        is("33 seed", x.seed(2147483647), 5);
        is("33 below 0", x.seed(-1), -1);
        is("33 least", x.seed(Integer.MIN_VALUE), -1);
        is("33 x", x.count(13), 2147483647);
        is("33 seed", x.seed(0), 2147483647);
    }

    private static void promise34() {
        // By x 0 the draws are 0 21468 9988 22117 3498 16927 16045 19741: of 2 the rest 0 0 0 1 0 1 1 1.
        FortyBasket x = Due.shopped("shop 10 100;thing 30 0 2;post 0");
        x.lay(0);
        is("34 paid", x.years(1, 4, 0), 70);
        is("34 things", x.years(1, 4, 1), 2);
        is("34 not bought yet", x.years(1, 3, 0), 0);
        is("34 twice from now on", x.years(2, 4, 0), 110);
        is("34 twice from now on", x.years(2, 4, 1), 3);
        is("34 on and on", x.years(1, 8, 1), 2);
        Due.rule(x, "price told + looks");
        x.force(0);
        // Three LOOKS, then from now on one.
        is("34 by looks", x.years(2, 4, 0), 76 + 41);
        row("34 nothing stays", counts(x), 10, 100, 1, 0, 1, 1, 0, 0, 0, 0, 1, 0, 1, 0, 0);
        is("34 no looks", x.thing(0, 4), 0);
        x.force(-1);
        x.put(0);
        is("34 from the basket", x.years(1, 4, 1), 2);
        is("34 what was paid is not in it", x.buy() + x.years(1, 4, 0), 30 + 40);
        x.seed(2147483647);
        x.put(0);
        // 1043980748 / 65536 is 15929.
        is("34 the greatest x", x.years(1, 1, 0), 40);
        FortyBasket y = Due.shopped("shop 10 100;thing 30 0 2;sale 3 3 50");
        is("34 days go by", y.years(2, 4, 0), 40 + 40);
        y.day();
        is("34 from this day", y.years(1, 4, 0), 70);
        is("34 m 0", y.years(0, 1, 0), -1);
        is("34 m 11", y.years(11, 1, 0), -1);
        is("34 n 0", y.years(1, 0, 0), -1);
        is("34 n 61", y.years(1, 61, 0), -1);
        is("34 what 2", y.years(1, 1, 2), -1);
        is("34 what -1", y.years(1, 1, -1), -1);
        FortyBasket z = Due.shopped("shop 10 100");
        is("34 no things", z.years(10, 60, 0), 0);
        is("34 no things", z.years(10, 60, 1), 0);
    }

    private static void promise35() {
        FortyBasket x = Due.shopped(BIG);
        is("35 what 15", x.count(15), -1);
        is("35 what -1", x.count(-1), -1);
        is("35 what least", x.count(Integer.MIN_VALUE), -1);
        Due.rule(x, "price told");
        Due.rule(x, "price told");
        x.force(1);
        x.put(0);
        x.put(1);
        x.lay(2);
        x.day();
        x.told(0, 0, 0, 1);
        x.seed(9);
        x.feed(0, 0, 0, 0, 0);
        row("35 counts", counts(x), 490, 4000, 3, 3, 3, 2, 1, 1, 0, 2, 1, 1, 4, 9, 20);
        x.buy();
        row("35 bought", counts(x), 490, 4000, 3, 3, 3, 2, 1, 1, 4009, 0, 0, 1, 5, 9, 20);
    }

    private static void promise37Told() {
        FortyBasket x = threeRules();
        x.told(0, 5, 2, 102);
        x.told(1, 6, 3, 10);
        is("37 ruled", x.ruled(1), 0);
        x.image(0);
        x.told(-1, 0, 0, 0);
        x.told(1, 8, 4, 12);
        x.told(0, 9, 5, 105);
        is("37 ruled otherwise", x.ruled(1), 2);
        x.image(1);
        x.back(0);
        is("37 prices", x.ruled(0), 1);
        is("37 ruled as it was", x.ruled(1), 0);
        x.back(1);
        is("37 ruled as in the other", x.ruled(1), 2);
        is("37 how many", x.ruled(0), 1);
    }

    private static void promise36And37() {
        FortyBasket x = new FortyBasket();
        is("36 no shop", x.image(3), 0);
        Due.shop(x, BIG);
        Due.rule(x, "price told + 1");
        x.force(0);
        x.put(0);
        x.lay(2);
        x.look(1);
        x.day();
        x.told(0, 0, 0, 1);
        x.seed(9);
        is("36 image", x.image(0), 1);
        is("36 acts stay", x.count(12), 4);
        is("36 image 4", x.image(4), -1);
        is("36 image -1", x.image(-1), -1);
        x.buy();
        x.day();
        x.force(-1);
        x.seed(8);
        x.told(-1, 0, 0, 0);
        Due.rule(x, "price told + 2");
        is("36 image", x.image(1), 2);
        Due.shop(x, "shop 1 1;thing 1 1 1");
        x.feed(0, 0, 0, 0, 0);
        is("37 never made", x.back(2), -1);
        is("37 image 4", x.back(4), -1);
        is("37 image -1", x.back(-1), -1);
        is("37 back", x.back(0), 1);
        row("37 as it was", counts(x), 490, 4000, 3, 3, 3, 2, 0, 1, 0, 1, 1, 1, 0, 9, 20);
        is("37 looks", x.thing(1, 4), 1);
        is("37 laid", x.code(2, 3), 0);
        is("37 stock", x.thing(0, 1), 3);
        is("37 nothing undone", x.undo(), -1);
        is("37 told", x.ruled(0), 0);
        x.end(0);
        is("37 back", x.back(1), 2);
        row("37 the other", counts(x), 490, 4000, 3, 3, 3, 2, -1, 2, 3611, 0, 0, 0, 0, 8, 0);
        is("37 last", x.thing(0, 5), 1);
        is("37 back again", x.back(0), 1);
        is("37 goes on", x.buy(), 3611);
        is("37 the image stays", x.back(0), 1);
        is("37 not bought", x.count(8), 0);
        is("36 made anew", x.image(3), 1);
        is("37 no longer without a shop", x.back(3), 1);
        FortyBasket y = new FortyBasket();
        y.image(0);
        Due.shop(y, BIG);
        days(y, 3);
        is("37 no shop", y.back(0), 0);
        is("37 no shop", y.cost(0), -1);
        is("37 no things", y.count(2), 0);
    }

    public static void main(String[] args) {
        promise1();
        promise2();
        promise3();
        promise4();
        promise5();
        promise6();
        promise7();
        promise8();
        promise9();
        promise10();
        promise11();
        promise12();
        promise13();
        promise14();
        promise15();
        promise16();
        promise17();
        promise18();
        promise19();
        promise20();
        promise20Last();
        promise21();
        promise22();
        promise23();
        promise24();
        promise25();
        promise26();
        promise27();
        promise28();
        promise29();
        promise30();
        promise31();
        promise32();
        promise33();
        promise34();
        promise35();
        promise36And37();
        promise37Told();
        D.finish();
    }
}
