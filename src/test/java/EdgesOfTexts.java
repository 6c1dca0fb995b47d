/** The edges of the two languages: how their texts are bounded, the FAULTS, and the TAPE. */
final class EdgesOfTexts {
    private final Edges e;

    EdgesOfTexts(Edges e) {
        this.e = e;
    }

    void all() {
        shopTexts();
        shopThings();
        shopSales();
        shopCodes();
        shopCounts();
        ruleTexts();
        ruleSigns();
        ruleValues();
        ruleArithmetic();
        ruleLimits();
        faultsOfSigns();
        faultsOfNumbers();
        faultsOfRules();
        faultsOfClauses();
        faultsOfOnePlace();
        tape();
    }

    private static String times(String text, int n) {
        return text.repeat(n);
    }

    /** Filled up with blanks behind it to 400 bytes. */
    private static String full(String text) {
        return text + times(" ", 400 - text.length());
    }

    /** How dear THING 0 is on DAY 5 by a RULE, LOOKED at 3 times. */
    private void by(String rule, int due) {
        FortyBasket x = Due.shopped("shop 0 0;thing 100 30 4;sale 5 5 50");
        e.is("the rule is read: " + rule, Due.rule(x, rule), 0);
        x.force(0);
        e.is("dear by " + rule, x.dear(0, 5, 3), due);
    }

    // ---- a SHOP

    private void shopTexts() {
        e.of(Edges.TERMS, "A SHOP is a text of at most 400 bytes: CLAUSE { ; CLAUSE }, 40 at most:");
        e.shop(full("shop 0 0;thing 1 0 0"), 1);
        e.shop(times(" ", 380) + "shop 0 0;thing 1 0 0", 1);
        e.shop(times(" ", 399) + "s", Due.fault(399, 0));
        e.shop("shop 0 0" + times(" ", 391) + ";", Due.fault(400, 0));
        e.shop("", Due.fault(0, 0));
        e.shop("shop 0 0", 0);
        String forty = "shop0 0;post0;post0" + times(";alone0 1", 36);
        e.shop(forty + ";thing1 1 1", 1);
        e.shop(forty + ";again;thing1 1 1", Due.fault(forty.length() + 7, 4));
        e.shop(forty + ";again;alone0 1", Due.fault(forty.length() + 7, 4));

        e.of(Edges.TERMS, "shop NUMBER NUMBER (CARRIAGE 0 to 999 pence; the sum from which on it is FREE, 0 to 9999; once, the first CLAUSE)");
        e.numbers("shop ", 0, 999, " 0", 0);
        e.numbers("shop 0 ", 0, 9999, "", 0);
        FortyBasket x = Due.shopped("shop 999 9999");
        e.call(x, 999, "count", 0);
        e.call(x, 9999, "count", 1);
        e.shop("shop 0 0;shop 0 0", Due.fault(9, 4));
        e.shop("shop 0 0;again;shop 0 0", Due.fault(15, 4));
        e.shop("again;shop 0 0", Due.fault(0, 4));
    }

    private void shopThings() {
        e.of(Edges.TERMS, "thing NUMBER NUMBER NUMBER (PRICE 1 to 5000; WORTH of one, 0 to 5000; STOCK 0 to 9)");
        e.numbers("shop 0 0;thing ", 1, 5000, " 0 0", 1);
        e.numbers("shop 0 0;thing 1 ", 0, 5000, " 0", 1);
        e.numbers("shop 0 0;thing 1 0 ", 0, 9, "", 1);
        FortyBasket x = Due.shopped("shop 0 0;thing 5000 4999 9;thing 1 0 0");
        e.call(x, 5000, "thing", 0, 6);
        e.call(x, 4999, "thing", 0, 7);
        e.call(x, 9, "thing", 0, 1);
        e.call(x, 1, "thing", 1, 6);
        e.call(x, 0, "thing", 1, 7);
        e.call(x, 0, "thing", 1, 1);

        e.of(Edges.TERMS, "want NUMBER NUMBER (a THING that was told; the DAY by which it is wanted, 0 to 30)");
        String two = "shop 0 0;thing 1 0 0;thing 1 0 0;want ";
        e.numbers(two, 0, 1, " 0", 2);
        e.numbers(two + "1 ", 0, 30, "", 2);
        e.shop("shop 0 0;want 0 0", Due.fault(14, 1));
        e.shop("shop 0 0;want 0 0;thing 1 0 0", Due.fault(14, 1));
        e.numbers("shop 0 0" + times(";thing 1 0 0", 8) + ";want ", 0, 7, " 0", 8);
        e.call(Due.shopped(two + "1 30"), 1, "want", 0, 0);
        e.call(Due.shopped(two + "1 30"), 30, "want", 0, 1);
    }

    private void shopSales() {
        e.of(Edges.TERMS, "sale NUMBER NUMBER NUMBER (the first, the last DAY, 0 to 99, not below the first; PERCENT 1 to 90 that prices are less; of a DAY the last told)");
        e.numbers("shop 0 0;sale ", 0, 99, " 99 1", 0);
        e.numbers("shop 0 0;sale 0 ", 0, 99, " 1", 0);
        e.numbers("shop 0 0;sale 7 ", 7, 99, " 1", 0);
        e.numbers("shop 0 0;sale 99 ", 99, 99, " 1", 0);
        e.numbers("shop 0 0;sale 0 0 ", 1, 90, "", 0);
        FortyBasket x = Due.shopped("shop 0 0;thing 100 0 0;sale 4 9 10;sale 6 8 20;sale 7 7 30;sale 99 99 90");
        int[] due = {100, 90, 90, 80, 70, 80, 90, 100};
        for (int i = 0; i < due.length; i++) {
            e.call(x, due[i], "dear", 0, 3 + i, 0);
        }
        e.call(x, 100, "dear", 0, 98, 0);
        e.call(x, 10, "dear", 0, 99, 0);
        e.call(x, 100, "dear", 0, 100, 0);
        FortyBasket y = Due.shopped("shop 0 0;thing 100 0 0;sale 7 7 30;sale 4 9 10;sale 0 0 1");
        e.call(y, 90, "dear", 0, 7, 0);
        e.call(y, 99, "dear", 0, 0, 0);
        e.call(y, 100, "dear", 0, 1, 0);
    }

    private void shopCodes() {
        e.of(Edges.TERMS, "percent NUMBER NUMBER (a CODE: PERCENT 1 to 90, FROM which sum on, 0 to 9999)");
        e.numbers("shop 0 0;percent ", 1, 90, " 0", 0);
        e.numbers("shop 0 0;percent 1 ", 0, 9999, "", 0);
        e.of(Edges.TERMS, "off NUMBER NUMBER (a CODE: pence 1 to 2000, FROM)");
        e.numbers("shop 0 0;off ", 1, 2000, " 0", 0);
        e.numbers("shop 0 0;off 1 ", 0, 9999, "", 0);
        e.of(Edges.TERMS, "post NUMBER (a CODE: no CARRIAGE, FROM)");
        e.numbers("shop 0 0;post ", 0, 9999, "", 0);
        e.of(Edges.TERMS, "alone NUMBER NUMBER (two CODES that were told: these do not go together)");
        String two = "shop 0 0;post 0;off 1 0;alone ";
        e.numbers(two + "0 ", 1, 1, "", 0);
        e.shop(two + "1 0", 0);
        e.shop(two + "2 0", Due.fault(two.length(), 1));
        e.shop("shop 0 0;alone 0 1", Due.fault(15, 1));
        e.shop("shop 0 0;post 0;alone 1 0", Due.fault(22, 1));
        e.shop("shop 0 0;post 0;alone 0 1;post 0", Due.fault(24, 1));
        FortyBasket x = Due.shopped(two + "1 0");
        e.call(x, 1, "lay", 0);
        e.call(x, -1, "lay", 1);
        FortyBasket y = Due.shopped(two + "0 1");
        e.call(y, 1, "lay", 1);
        e.call(y, -1, "lay", 0);
    }

    private void shopCounts() {
        e.of(Edges.TERMS, "THINGS 0 to 7, WANTS 0 to 5, SALES 0 to 3, CODES 0 to 4, in the order told; again once at most. It is DAY 0.");
        StringBuilder b = new StringBuilder("shop 0 0");
        for (int i = 0; i < 8; i++) {
            b.append(";thing ").append(10 + i).append(" 0 0");
        }
        for (int i = 0; i < 6; i++) {
            b.append(";want 0 ").append(20 + i);
        }
        for (int i = 0; i < 4; i++) {
            b.append(";sale ").append(i).append(' ').append(i).append(' ').append(30 + i * 10);
        }
        for (int i = 0; i < 5; i++) {
            b.append(";post ").append(40 + i);
        }
        FortyBasket x = new FortyBasket();
        e.is("all there can be", Due.shop(x, b + ";again"), 8);
        for (int i = 0; i < 9; i++) {
            e.call(x, i < 8 ? 10 + i : -1, "thing", i, 6);
            e.call(x, i < 6 ? 20 + i : -1, "want", i, 1);
            e.call(x, i < 5 ? 40 + i : -2, "code", i, 2);
        }
        e.call(x, 7, "dear", 0, 0, 0);
        e.call(x, 6, "dear", 0, 1, 0);
        e.call(x, 5, "dear", 0, 2, 0);
        e.call(x, 4, "dear", 0, 3, 0);
        e.call(x, 0, "count", 7);
        x.day();
        Due.shop(x, "shop 0 0");
        e.call(x, 0, "count", 7);
        e.call(x, -1, "thing", 0, 6);
        e.call(x, -1, "want", 0, 0);
        e.call(x, -2, "code", 0, 0);
        e.shop(b + ";again;again", Due.fault(b.length() + 7, 4));
    }

    // ---- a RULE

    private void ruleTexts() {
        e.of(Edges.TERMS, "RULES 0 to 5: texts likewise, 12 CLAUSES at most: price SUM [ if TEST ].");
        FortyBasket x = Due.shopped("shop 0 0;thing 1 0 0");
        for (int r = 0; r < 6; r++) {
            e.is("rule " + r, Due.rule(x, "price " + (50 + r)), r);
        }
        for (int r = 0; r < 6; r++) {
            x.force(r);
            e.call(x, 50 + r, "dear", 0, 0, 0);
        }
        e.is("a seventh", Due.rule(x, "price 1"), -1);
        String eleven = times("price 1 if 1<1;", 11);
        by(eleven + "price 7", 7);
        by(eleven + "price 7 if 1=1", 7);
        by(eleven + "price 7 if 1>1", 1);
        e.rule(eleven + "price 7;price 8", Due.fault(eleven.length() + 8, 4));
        e.rule(full("price 7"), 0);
        e.rule(times(" ", 393) + "price 7", 0);
        e.rule(times(" ", 395) + "price", Due.fault(400, 0));
        e.rule(times(" ", 400), Due.fault(400, 0));

        e.of(Edges.TERMS, "TEST: PART { or PART }. PART: FACT { and FACT }. FACT: not FACT | [ TEST ] (these brackets are signs)");
        by("price 5 if 1=1 or 1=1 and 1=2;price 6", 5);
        by("price 5 if 1=2 and 1=1 or 1=1;price 6", 5);
        by("price 5 if [1=1 or 1=1] and 1=2;price 6", 6);
        by("price 5 if not 1=1 or 1=1;price 6", 5);
        by("price 5 if not [1=1 or 1=1];price 6", 6);
        by("price 5 if 1=2 or 1=2 or 1=1;price 6", 5);
        by("price 5 if 1=1 and 1=1 and 1=2;price 6", 6);
    }

    private void ruleSigns() {
        e.of(Edges.TERMS, "SUM SIGN SUM, SIGN one of < <= = >= >.");
        String[] signs = {"<", "<=", "=", ">=", ">"};
        // For a SUM that is below, at and above 3.
        int[][] holds = {{5, 6, 6}, {5, 5, 6}, {6, 5, 6}, {6, 5, 5}, {6, 6, 5}};
        for (int s = 0; s < 5; s++) {
            for (int i = 0; i < 3; i++) {
                by("price 5 if " + (2 + i) + signs[s] + "looks;price 6", holds[s][i]);
            }
        }
        by("price 5 if 0-1<0;price 6", 5);
        by("price 5 if 0-1>0;price 6", 6);
        e.of(Edges.TERMS, "SUM: TERM { (+ or -) TERM }. TERM: VALUE { (* or / or %) VALUE }.");
        by("price 100-50-30", 20);
        by("price 2+3*4", 14);
        by("price 100/7*7", 98);
        by("price 100*7/8%6", 3);
    }

    private void ruleValues() {
        e.of(Edges.TERMS, "NUMBER (1 to 5 digits, as far as digits go on)");
        by("price 7", 7);
        by("price 0", 1);
        by("price 00007", 7);
        by("price 99999/9", 9999);
        by("price 99999-99990", 9);
        e.rule("price", Due.fault(5, 0));
        e.rule("price 000007", Due.fault(6, 1));
        e.rule("price 100000", Due.fault(6, 1));
        e.rule("price 1 2", Due.fault(8, 0));
        e.shop("shop 00000 00000", 0);
        e.shop("shop 000000 0", Due.fault(5, 1));

        e.of(Edges.TERMS, "WORDS (small letters, as far as these go on) of a THING on a DAY:");
        by("price told", 100);
        by("price told+thing", 100);
        by("price day*1000+looks*100+worth", 5330);
        by("price stock*100+sale", 450);
        by("price5if looks=3", 5);
        e.rule("price toldif", Due.fault(6, 0));
        e.rule("price tol", Due.fault(6, 0));
        e.rule("price z", Due.fault(6, 0));
        e.rule("price zold", Due.fault(6, 0));
        e.rule("price toldz", Due.fault(6, 0));
        e.rule("price told z1", Due.fault(11, 0));
        e.rule("price Told", Due.fault(6, 0));
        e.rule("price tolD", Due.fault(6, 0));
        e.rule("price told" + (char) 96, Due.fault(10, 0));
        e.rule("price told" + (char) 123, Due.fault(10, 0));

        e.of(Edges.TERMS, "sale (PERCENT of the DAY, 0 without)");
        by("price 1+sale", 51);
        FortyBasket x = Due.shopped("shop 0 0;thing 100 30 4;sale 5 5 50");
        Due.rule(x, "price 1+sale");
        x.force(0);
        e.call(x, 1, "dear", 0, 4, 0);
        e.call(x, 1, "dear", 0, 6, 0);
        e.of(Edges.TERMS, "bought (how many one has had, less what was sent back)");
        Due.rule(x, "price stock*10+bought+1");
        x.force(1);
        e.call(x, 41, "thing", 0, 0);
        x.put(0);
        x.put(0);
        e.call(x, 41, "thing", 0, 0);
        x.buy();
        e.call(x, 23, "thing", 0, 0);
        x.put(0);
        x.buy();
        e.call(x, 14, "thing", 0, 0);
        x.sendBack(0);
        e.call(x, 23, "thing", 0, 0);
    }

    private void ruleArithmetic() {
        // 65536 * 65536 * 65536 * 32768 is 2 to the 63: it goes round to the least number there is.
        String least = "65536*65536*65536*32768";
        e.of(Edges.TERMS, "/ is towards 0, % its rest, both 0 by 0; all goes round in 64 bits.");
        by("price 7/2", 3);
        by("price 7%2", 1);
        by("price 7/0+5", 5);
        by("price 7%0+5", 5);
        by("price 0/0+5", 5);
        by("price 7/thing+5", 5);
        // -32768 / 5 is -6553 towards 0, and -3 is its rest.
        by("price 9000+" + least + "/65536/65536/65536/5", 2447);
        by("price 9000+" + least + "/65536/65536/65536%5", 8997);
        by("price " + least, 1);
        by("price 0-" + least, 1);
        by("price 0-" + least + "-1", 9999);
        by("price " + least + "+" + least + "+5", 5);
        by("price 65536*65536*65536*65536+5", 5);
        by("price 65536*65536*65536*16384", 9999);
        by("price 65536*65536*65536*16384+65536*65536*65536*16384", 1);
        by("price " + least + "-1-" + least + "+8", 7);
        by("price 5 if " + least + "<0;price 6", 5);
        by("price 5 if " + least + "-1>0;price 6", 5);

        e.of(Edges.TERMS, "Blanks (32) stand between as one likes.");
        by("price5if[looks=3]and not1>1;price6", 5);
        by("  price   5  +  1   if  [  looks  <=  3  ]  and  not  1  >  1  ;  price  6  ", 6);
        e.shop("  shop  0   0  ;  again  ", 0);
        e.shop("shop0 0;again", 0);
        for (int other : new int[] {0, 9, 10, 13, 31, 33, 160, 255}) {
            e.rule("price 5" + (char) other, Due.fault(7, 0));
            e.shop("shop" + (char) other + "0 0", Due.fault(4, 0));
        }
        e.rule("price 5 if 1 < = 1", Due.fault(14 + 1, 0));
        e.rule("pri ce 5", Due.fault(0, 0));
    }

    private void ruleLimits() {
        e.of(Edges.TERMS, "[ and not lie within one another 10 deep at most;");
        by("price 5 if " + times("[", 10) + "1=1" + times("]", 10) + ";price 6", 5);
        by("price 5 if " + times("not ", 10) + "1=1;price 6", 5);
        by("price 5 if " + times("not ", 9) + "1=1;price 6", 6);
        by("price 5 if " + times("not[", 5) + "1=2" + times("]", 5) + ";price 6", 5);
        e.rule("price 5 if " + times("[", 11) + "1=1" + times("]", 11), Due.fault(21, 2));
        e.rule("price 5 if " + times("not ", 11) + "1=1", Due.fault(51, 2));
        e.rule("price 5 if " + times("not[", 5) + "[1=1" + times("]", 6), Due.fault(31, 2));
        e.rule("price 5 if " + times("[not ", 5) + "not 1=1" + times("]", 5), Due.fault(36, 2));
        // What is closed, or behind the FACT of a not, lies no more within.
        e.rule("price 5 if " + times("[", 10) + "1=1" + times("]", 10) + " or " + times("not ", 10) + "1=1 and " + times("[", 10)
            + "1=1" + times("]", 10) + ";price 5 if " + times("[", 10) + "1=1" + times("]", 10), 0);

        e.of(Edges.TERMS, "at most 60 VALUES (of SUMS) and FACTS made of a SIGN, together.");
        by("price 1" + times("+1", 59), 60);
        e.rule("price 1" + times("+1", 60), Due.fault(7 + 59 * 2 + 1, 3));
        // Fifteen of 4 each: a VALUE, two of the FACT, and the FACT; eleven clauses and more FACTS.
        String most = times("price 1 if 1>1;", 11) + "price 1 if 1>1 or 1>1 or 1>1 or 1>1 or 1=1";
        e.rule(most, 0);
        e.rule(most + " or 1=1", Due.fault(most.length() + 4, 3));
        String last = times("price 1 if 1>1;", 11) + "price 9 if 1>1 or 1>1 or 1>1 or 1=1+0";
        by(last + "+0", 9);
        by(last + "+1", 1);
        e.rule(last + "+0+0+0", Due.fault(last.length() + 5, 3));
        // Each text is counted for itself.
        FortyBasket x = Due.shopped("shop 0 0;thing 1 0 0");
        for (int r = 0; r < 6; r++) {
            e.is("one too many ahead of rule " + r, Due.rule(x, "price 1" + times("+1", 60)), Due.fault(7 + 59 * 2 + 1, 3));
            e.is("rule " + r, Due.rule(x, "price " + r + times("+1", 59)), r);
            x.force(r);
            e.call(x, 59 + r, "dear", 0, 0, 0);
        }
        // Brackets, not, and, or do not count.
        by("price 1" + times("+1", 53) + " if not[[1=2]]and not 1=2", 54);
    }

    // ---- FAULTS

    private void faultsOfSigns() {
        e.of(Edges.TERMS, "FAULTS, the first along the text, 1 + 8 * its place and:");
        e.shop("x", -3);
        e.shop(" x", -11);
        e.shop("shop 1000 10000;x", Due.fault(5, 1));
        e.shop("shop 0 10000;x", Due.fault(7, 1));
        e.shop("shop 0 0;x;shop", Due.fault(9, 0));
        e.shop(times(" ", 399) + "x", -2 - 1 - 8 * 399);
        e.rule("price 100000;x", Due.fault(6, 1));
        e.rule("price x;100000", Due.fault(6, 0));

        e.of(Edges.TERMS, "0 a byte or WORD that can't stand there, or the end (behind the last byte);");
        e.shop("", Due.fault(0, 0));
        e.shop("  ", Due.fault(2, 0));
        e.shop("shop", Due.fault(4, 0));
        e.shop("shop ", Due.fault(5, 0));
        e.shop("shop 0", Due.fault(6, 0));
        e.shop("shop 0 0;", Due.fault(9, 0));
        e.shop("shop 0 0;  ", Due.fault(11, 0));
        e.shop("shop 0 0;;", Due.fault(9, 0));
        e.shop("shop 0 0 0", Due.fault(9, 0));
        e.shop("shop 0 0 again", Due.fault(9, 0));
        e.shop("shop -1 0", Due.fault(5, 0));
        e.shop("shop again 0", Due.fault(5, 0));
        e.shop("shop 0 0;again 0", Due.fault(15, 0));
        e.shop("shop 0 0;thing 1 0", Due.fault(18, 0));
        e.shop("shop 0 0;thing 1 0 0 0", Due.fault(21, 0));
        e.shop("shop 0 0;thing 1 0 0;want 0", Due.fault(27, 0));
        e.shop("shop 0 0;sale 0 0;again", Due.fault(17, 0));
        e.shop("shop 0 0;percent 1;again", Due.fault(18, 0));
        e.shop("shop 0 0;off 1;again", Due.fault(14, 0));
        e.shop("shop 0 0;post;again", Due.fault(13, 0));
        e.shop("shop 0 0;post 0 0", Due.fault(16, 0));
        e.shop("shop 0 0;post 0;post 0;alone 0", Due.fault(30, 0));
        e.shop("shop 0 0;price 1", Due.fault(9, 0));
        e.shop("shop 0 0;told 1", Due.fault(9, 0));
        e.rule("", Due.fault(0, 0));
        e.rule("price", Due.fault(5, 0));
        e.rule("price 1;", Due.fault(8, 0));
        e.rule("price 1+", Due.fault(8, 0));
        e.rule("price 1 if", Due.fault(10, 0));
        e.rule("price 1 if 1", Due.fault(12, 0));
        e.rule("price 1 if 1<", Due.fault(13, 0));
        e.rule("price 1 if 1=1 or", Due.fault(17, 0));
        e.rule("price 1 if [1=1", Due.fault(15, 0));
        e.rule("price 1 if 1=1]", Due.fault(14, 0));
        e.rule("price 1 if not", Due.fault(14, 0));
        e.rule("price [1]", Due.fault(6, 0));
        e.rule("price -1", Due.fault(6, 0));
        e.rule("price price", Due.fault(6, 0));
        e.rule("price shop", Due.fault(6, 0));
        e.rule("price if", Due.fault(6, 0));
        e.rule("price 1 if 1=1=1", Due.fault(14, 0));
        e.rule("price 1 if 1==1", Due.fault(13, 0));
        e.rule("price 1 if 1=<1", Due.fault(13, 0));
        e.rule("price 1 if 1<>1", Due.fault(13, 0));
        e.rule("shop 0 0", Due.fault(0, 0));
    }

    private void faultsOfNumbers() {
        e.of(Edges.TERMS, "1 a NUMBER of more digits, or not as told (of alone the second CODE, if it is the first);");
        e.shop("shop 000001 0", Due.fault(5, 1));
        e.shop("shop 4294967296 0", Due.fault(5, 1));
        e.shop("shop 18446744073709551616 0", Due.fault(5, 1));
        e.shop("shop 1000 0", Due.fault(5, 1));
        e.shop("shop 0 99999", Due.fault(7, 1));
        e.shop("shop 0 0;thing 0 0 0", Due.fault(15, 1));
        e.rule("price 1+4294967296", Due.fault(8, 1));
        e.rule("price 1 if 1=000000", Due.fault(13, 1));
        String three = "shop 0 0;post 0;post 0;post 0;alone ";
        for (int one = 0; one < 3; one++) {
            for (int other = 0; other < 4; other++) {
                e.shop(three + one + " " + other, one == other || other > 2 ? Due.fault(three.length() + 2, 1) : 0);
            }
        }
        e.shop(three + "1 00001", Due.fault(three.length() + 2, 1));
        e.shop(three + "00001 1", Due.fault(three.length() + 6, 1));
        e.shop(three + "3 3", Due.fault(three.length(), 1));
    }

    private void faultsOfRules() {
        e.of(Edges.TERMS, "2 too deep (at the sign that opens, or the word not);");
        e.rule("price 5 if " + times("[ ", 11) + "1=1", Due.fault(31, 2));
        e.rule("price 5 if " + times("not  ", 11) + "1=1", Due.fault(61, 2));
        e.rule("price 5 if " + times("[ ", 10) + "1=1 and [", Due.fault(39, 2));
        e.rule("price 5 if " + times("[ ", 10) + "1=1 or not", Due.fault(38, 2));
        e.rule("price 5 if " + times("[ ", 10) + "x", Due.fault(31, 0));
        e.rule("price 5 if " + times("[ ", 10) + "]", Due.fault(31, 0));

        e.of(Edges.TERMS, "3 one VALUE or FACT too many (at its first byte; of a FACT at its SIGN);");
        String sixty = "price 1" + times("+1", 59);
        e.rule(sixty + "  *  told", Due.fault(sixty.length() + 5, 3));
        e.rule(sixty + " - 12345", Due.fault(sixty.length() + 3, 3));
        e.rule(sixty + ";price 1", Due.fault(sixty.length() + 7, 3));
        e.rule(sixty + " if 1=1", Due.fault(sixty.length() + 4, 3));
        String one = "price 1" + times("+1", 58);
        e.rule(one + " if 12 >= 12", Due.fault(one.length() + 7, 3));
        e.rule(one + " if 12", Due.fault(one.length() + 6, 0));
        String two = "price 1" + times("+1", 57);
        e.rule(two + " if 1 <= 12", Due.fault(two.length() + 9, 3));
        e.rule(two + " if 1 <=", Due.fault(two.length() + 8, 0));
    }

    private void faultsOfClauses() {
        e.of(Edges.TERMS, "4 one CLAUSE too many, a second shop or again, another CLAUSE ahead of shop, a ninth THING, a seventh WANT, a fifth SALE, a sixth CODE (at its first byte).");
        e.rule("price 1" + times(";price 1", 12), Due.fault(12 * 8, 4));
        e.rule("price 1" + times(";price 1", 11) + "; price", Due.fault(12 * 8 + 1, 4));
        String forty = "shop0 0;post0;post0" + times(";alone0 1", 37);
        e.shop(forty, 0);
        for (String more : new String[] {"shop", "thing", "want", "sale", "percent", "off", "post", "alone", "again"}) {
            e.shop(forty + "; " + more, Due.fault(forty.length() + 2, 4));
            e.shop(" " + (more.equals("shop") ? "again" : more), Due.fault(1, 4));
        }
        e.shop("shop 0 0; shop", Due.fault(10, 4));
        e.shop("shop 0 0;again; again", Due.fault(16, 4));
        e.shop("shop 0 0" + times(";thing 1 0 0", 8) + "; thing 1 0 0", Due.fault(8 + 96 + 2, 4));
        e.shop("shop 0 0;thing 1 0 0" + times(";want 0 0", 6) + "; want 0 0", Due.fault(20 + 54 + 2, 4));
        e.shop("shop 0 0" + times(";sale 0 0 1", 4) + "; sale 0 0 1", Due.fault(8 + 44 + 2, 4));
        for (String code : new String[] {"percent 1 0", "off 1 0", "post 0"}) {
            e.shop("shop 0 0;percent 1 0;off 1 0;post 0;post 0;off 1 0; " + code, Due.fault(53 - 1, 4));
            e.shop("shop 0 0;percent 1 0;off 1 0;post 0;post 0;" + code, 0);
        }
    }

    private void faultsOfOnePlace() {
        e.of(Edges.TERMS, "Of one place the least.");
        String forty = "shop0 0;post0;post0" + times(";alone0 1", 37);
        e.shop(forty + ";x", Due.fault(forty.length() + 1, 0));
        e.shop(forty + ";", Due.fault(forty.length() + 1, 0));
        e.shop("x;shop 0 0", Due.fault(0, 0));
        e.shop("shop 0 0;post 0;alone 1 1", Due.fault(22, 1));
        e.shop("shop 0 0 123456", Due.fault(9, 0));
        String sixty = "price 1" + times("+1", 59);
        e.rule(sixty + "+x", Due.fault(sixty.length() + 1, 0));
        e.rule(sixty + "+", Due.fault(sixty.length() + 1, 0));
        e.rule(sixty + "+123456", Due.fault(sixty.length() + 1, 1));
        e.rule(sixty + "+[", Due.fault(sixty.length() + 1, 0));
        e.rule(sixty + " if " + times("[", 11), Due.fault(sixty.length() + 14, 2));
        String one = "price 1" + times("+1", 58) + " if 1";
        e.rule(one + "]", Due.fault(one.length(), 0));
        e.rule("price 1" + times(";price 1", 11) + ";x", Due.fault(12 * 8, 0));
    }

    // ---- the TAPE

    private void tape() {
        e.of(2, "Twenty bytes come behind the TAPE, of each number the highest first: how many it has;");
        FortyBasket x = new FortyBasket();
        // "shop 12 345;thing 67" and " 8 9" with what is behind it.
        e.call(x, 20, "feed", 0x73686f70, 0x20313220, 0x3334353b, 0x7468696e, 0x67203637);
        e.call(x, 40, "feed", 0x20382039, 0, -1, Integer.MIN_VALUE, Integer.MAX_VALUE);
        e.call(x, 24, "end", 24);
        e.call(x, 1, "shop");
        e.call(x, 12, "count", 0);
        e.call(x, 345, "count", 1);
        e.call(x, 67, "thing", 0, 6);
        e.call(x, 9, "thing", 0, 1);

        e.of(2, "NONE, and none comes, if it would have more than 400.");
        FortyBasket y = new FortyBasket();
        for (int i = 1; i <= 20; i++) {
            e.call(y, 20 * i, "feed", 0x20202020, 0x20202020, 0x20202020, 0x20202020, 0x20202020);
        }
        e.refused(() -> fed(400), -1, "feed", 0x78787878, 0, 0, 0, 0);
        e.refused(() -> fed(399), -1, "feed", 0x78787878, 0, 0, 0, 0);
        e.refused(() -> fed(381), -1, "feed", 0x78787878, 0, 0, 0, 0);
        FortyBasket z = fed(380);
        e.call(z, 400, "feed", 0x20202020, 0x20202020, 0x20202020, 0x20202020, 0x20202020);
        e.call(z, 1, "shop");

        e.of(3, "The TAPE has its first n bytes alone: n;");
        FortyBasket v = fed(40);
        e.call(v, 40, "end", 40);
        e.call(v, 20, "end", 20);
        e.call(v, 20, "count", 14);
        e.call(v, 1, "shop");
        e.call(v, 0, "end", 0);
        e.call(fed(400), 0, "end", 0);

        e.of(3, "NONE, and nothing happens, if it has not so many, or n is below 0.");
        for (int n : new int[] {21, 22, 400, 401, Integer.MAX_VALUE, -1, -20, Integer.MIN_VALUE}) {
            e.refused(() -> fed(20), -1, "end", n);
        }
        e.refused(FortyBasket::new, -1, "end", 1);
        e.refused(FortyBasket::new, -1, "end", -1);
    }

    /** A TAPE of so many bytes, 20 at least: a SHOP of one THING, and blanks. */
    private static FortyBasket fed(int n) {
        return Due.tape(new FortyBasket(), "shop 5 6;thing 7 1 2" + times(" ", n - 20));
    }
}
