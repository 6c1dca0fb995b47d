/** The FAULTS of the texts: their kinds, their places, and which of several is told. */
public final class FaultTest {
    private static final Due D = new Due();

    private static void shop(String text, int due) {
        D.is("shop of " + text, Due.shop(new FortyBasket(), text), due);
    }

    private static void rule(String text, int due) {
        D.is("rule of " + text, Due.rule(new FortyBasket(), text), due);
    }

    private static String times(String text, int n) {
        return text.repeat(n);
    }

    private static void shopSigns() {
        shop("", Due.fault(0, 0));
        shop("   ", Due.fault(3, 0));
        shop("shop", Due.fault(4, 0));
        shop("shop 0", Due.fault(6, 0));
        shop("shop 0  ", Due.fault(8, 0));
        shop("shops 0 0", Due.fault(0, 0));
        shop("Shop 0 0", Due.fault(0, 0));
        shop("xhop 0 0", Due.fault(0, 0));
        shop("shoz 0 0", Due.fault(0, 0));
        shop("sho", Due.fault(0, 0));
        shop("shopkeeper 0 0", Due.fault(0, 0));
        shop("price 1", Due.fault(0, 0));
        shop("told", Due.fault(0, 0));
        shop("7", Due.fault(0, 0));
        shop("\0", Due.fault(0, 0));
        shop("shop 0 0\0", Due.fault(8, 0));
        shop("shop 0 0\t", Due.fault(8, 0));
        shop("shop 0 0" + (char) 160, Due.fault(8, 0));
        shop("shop 0 0;", Due.fault(9, 0));
        shop("shop 0 0; ", Due.fault(10, 0));
        shop("shop 0 0;;", Due.fault(9, 0));
        shop("shop 0 0 0", Due.fault(9, 0));
        shop("shop 0 0 again", Due.fault(9, 0));
        shop("shop 0,0", Due.fault(6, 0));
        shop("shop -1 0", Due.fault(5, 0));
        shop("shop 0 x", Due.fault(7, 0));
        shop("shop00", Due.fault(6, 0));
        shop("shop 0 0;again 1", Due.fault(15, 0));
        shop("shop 0 0;thing 1 1", Due.fault(18, 0));
        shop("shop 0 0;thing 1 1 1 1", Due.fault(21, 0));
        shop("shop 0 0;post 1 1", Due.fault(16, 0));
        shop("shop 0 0;off 1", Due.fault(14, 0));
        shop("shop 0 0;if", Due.fault(9, 0));
        shop("shop0 0", 0);
        shop("  shop  0  0  ;  again  ", 0);
        shop("shop999 9999;thing5000 5000 9;want0 30;sale0 99 90;percent90 9999;off2000 9999;post9999;alone0 2;again", 1);
        shop("shop 00000 00000;thing 00001 00000 00000", 1);
    }

    private static void shopNumbers() {
        shop("shop 1000 0", Due.fault(5, 1));
        shop("shop 000000 0", Due.fault(5, 1));
        shop("shop 99999999999999999999 0", Due.fault(5, 1));
        shop("shop 0 10000", Due.fault(7, 1));
        shop("shop 0 000000", Due.fault(7, 1));
        shop("shop 1000 x", Due.fault(5, 1));
        shop("shop 0 0;thing 0 0 0", Due.fault(15, 1));
        shop("shop 0 0;thing 5001 0 0", Due.fault(15, 1));
        shop("shop 0 0;thing 1 5001 0", Due.fault(17, 1));
        shop("shop 0 0;thing 1 0 10", Due.fault(19, 1));
        shop("shop 0 0;want 0 0", Due.fault(14, 1));
        shop("shop 0 0;thing 1 0 0;want 1 0", Due.fault(26, 1));
        shop("shop 0 0;thing 1 0 0;want 0 31", Due.fault(28, 1));
        shop("shop 0 0;sale 100 100 1", Due.fault(14, 1));
        shop("shop 0 0;sale 0 100 1", Due.fault(16, 1));
        shop("shop 0 0;sale 5 4 1", Due.fault(16, 1));
        shop("shop 0 0;sale 5 5 0", Due.fault(18, 1));
        shop("shop 0 0;sale 0 0 91", Due.fault(18, 1));
        shop("shop 0 0;percent 0 0", Due.fault(17, 1));
        shop("shop 0 0;percent 91 0", Due.fault(17, 1));
        shop("shop 0 0;percent 1 10000", Due.fault(19, 1));
        shop("shop 0 0;off 0 0", Due.fault(13, 1));
        shop("shop 0 0;off 2001 0", Due.fault(13, 1));
        shop("shop 0 0;off 1 10000", Due.fault(15, 1));
        shop("shop 0 0;post 10000", Due.fault(14, 1));
        shop("shop 0 0;alone 0 1", Due.fault(15, 1));
        shop("shop 0 0;post 0;alone 0 0", Due.fault(24, 1));
        shop("shop 0 0;post 0;alone 0 1", Due.fault(24, 1));
        shop("shop 0 0;post 0;post 0;alone 1 1", Due.fault(31, 1));
        shop("shop 0 0;post 0;post 0;alone 1 01", Due.fault(31, 1));
        shop("shop 0 0;post 0;post 0;alone 1 0", 0);
    }

    private static void shopClauses() {
        shop("thing 1 1 1", Due.fault(0, 4));
        shop("  again", Due.fault(2, 4));
        shop("shop 0 0;shop 0 0", Due.fault(9, 4));
        shop("shop 0 0;shop", Due.fault(9, 4));
        shop("shop 0 0;again;again", Due.fault(15, 4));
        String things = times(";thing 1 0 0", 8);
        shop("shop 0 0" + things, 8);
        shop("shop 0 0" + things + ";thing 1 0 0", Due.fault(8 + 8 * 12 + 1, 4));
        shop("shop 0 0" + things + "; thing", Due.fault(8 + 8 * 12 + 2, 4));
        String wants = ";thing 1 0 0" + times(";want 0 0", 6);
        shop("shop 0 0" + wants, 1);
        shop("shop 0 0" + wants + ";want 0 0", Due.fault(8 + 12 + 6 * 9 + 1, 4));
        String sales = times(";sale 0 0 1", 4);
        shop("shop 0 0" + sales, 0);
        shop("shop 0 0" + sales + ";sale 0 0 1", Due.fault(8 + 4 * 11 + 1, 4));
        String codes = ";percent 1 0;off 1 0;post 0;off 1 0;post 0";
        shop("shop 0 0" + codes, 0);
        shop("shop 0 0" + codes + ";percent 1 0", Due.fault(8 + codes.length() + 1, 4));
        shop("shop 0 0" + codes + ";off 1 0", Due.fault(8 + codes.length() + 1, 4));
        shop("shop 0 0" + codes + ";post 0", Due.fault(8 + codes.length() + 1, 4));
        // 1 + 2 + 37 clauses, then one more.
        String forty = "shop0 0;post0;post0" + times(";alone0 1", 37);
        shop(forty, 0);
        shop(forty + ";alone0 1", Due.fault(forty.length() + 1, 4));
        shop(forty + ";again", Due.fault(forty.length() + 1, 4));
        shop(forty + ";alones", Due.fault(forty.length() + 1, 0));
        shop(forty + ";", Due.fault(forty.length() + 1, 0));
    }

    private static void ruleSigns() {
        rule("", Due.fault(0, 0));
        rule("price", Due.fault(5, 0));
        rule("price ", Due.fault(6, 0));
        rule("prices 1", Due.fault(0, 0));
        rule("shop 0 0", Due.fault(0, 0));
        rule("price x", Due.fault(6, 0));
        rule("price price", Due.fault(6, 0));
        rule("price not", Due.fault(6, 0));
        rule("price [1]", Due.fault(6, 0));
        rule("price -1", Due.fault(6, 0));
        rule("price 1;", Due.fault(8, 0));
        rule("price 1 2", Due.fault(8, 0));
        rule("price 1 told", Due.fault(8, 0));
        rule("price told1", Due.fault(10, 0));
        rule("price toldx", Due.fault(6, 0));
        rule("price toldz", Due.fault(6, 0));
        rule("price told" + (char) 123, Due.fault(10, 0));
        rule("price told" + (char) 96, Due.fault(10, 0));
        rule("price 1:", Due.fault(7, 0));
        rule("price shop", Due.fault(6, 0));
        rule("price want", Due.fault(6, 0));
        rule("price 1 +", Due.fault(9, 0));
        rule("price 5 %", Due.fault(9, 0));
        rule("price 1 + * 2", Due.fault(10, 0));
        rule("price 1 and 2", Due.fault(8, 0));
        rule("price 1 < 2", Due.fault(8, 0));
        rule("price 1 if", Due.fault(10, 0));
        rule("price 1 if 1", Due.fault(12, 0));
        rule("price 1 if 1 =", Due.fault(14, 0));
        rule("price 1 if 1 <=", Due.fault(15, 0));
        rule("price 1 if 1 >=", Due.fault(15, 0));
        rule("price 1 if 1 < = 2", Due.fault(15, 0));
        rule("price 1 if 1 => 2", Due.fault(14, 0));
        rule("price 1 if 1 == 2", Due.fault(14, 0));
        rule("price 1 if 1 <> 2", Due.fault(14, 0));
        rule("price 1 if 1 = 1 = 1", Due.fault(17, 0));
        rule("price 1 if 1 = 1 if", Due.fault(17, 0));
        rule("price 1 if 1 = 1 and", Due.fault(20, 0));
        rule("price 1 if 1 = 1 or ;", Due.fault(20, 0));
        rule("price 1 if 1 = 1 not", Due.fault(17, 0));
        rule("price 1 if sale = 1]", Due.fault(19, 0));
        rule("price 1 if [sale = 1", Due.fault(20, 0));
        rule("price 1 if [sale = 1;", Due.fault(20, 0));
        rule("price 1 if [sale]", Due.fault(16, 0));
        rule("price 1 if [1 = 1] + 1", Due.fault(19, 0));
        rule("price 1 if [1 = 1] = 1", Due.fault(19, 0));
        rule("price 1 if []", Due.fault(12, 0));
        rule("price 1 if not", Due.fault(14, 0));
        rule("price 1 if not ]", Due.fault(15, 0));
        rule("price 1 if (1 = 1)", Due.fault(11, 0));
        rule("price 1 if 1 = 1andnot 1 = 1", Due.fault(16, 0));
        rule("price 1 if 1 = 1and not1<=1or[1>=1]", 0);
        rule("price1+2*3/4%5-told if thing<1;price worth", 0);
        rule(" price  day + looks + stock + bought + worth + sale + thing ", 0);
    }

    private static void ruleLimits() {
        rule("price 99999", 0);
        rule("price 00000", 0);
        rule("price 100000", Due.fault(6, 1));
        rule("price 000000", Due.fault(6, 1));
        rule("price 1 + 0000001 x", Due.fault(10, 1));
        // Ten deep is as deep as it goes, of [ and not together.
        rule("price 1 if " + times("[", 10) + "1=1" + times("]", 10), 0);
        rule("price 1 if " + times("[", 11) + "1=1" + times("]", 11), Due.fault(21, 2));
        rule("price 1 if " + times("not ", 10) + "1=1", 0);
        rule("price 1 if " + times("not ", 11) + "1=1", Due.fault(11 + 40, 2));
        rule("price 1 if " + times("not[", 5) + "1=1" + times("]", 5), 0);
        rule("price 1 if " + times("not[", 5) + "not 1=1" + times("]", 5), Due.fault(11 + 20, 2));
        rule("price 1 if " + times("not[", 5) + "[1=1" + times("]", 6), Due.fault(11 + 20, 2));
        // What is closed again does not lie within.
        rule("price 1 if " + times("not ", 10) + "1=1 and " + times("[", 10) + "1=1" + times("]", 10), 0);
        rule("price 1 if [" + times("not ", 9) + "1=1 and " + times("not ", 10) + "1=1]", Due.fault(12 + 36 + 8 + 36, 2));
        // 60 VALUES, then one more.
        String sixty = "price 1" + times("+1", 59);
        rule(sixty, 0);
        rule(sixty + "+1", Due.fault(sixty.length() + 1, 3));
        rule(sixty + "+told", Due.fault(sixty.length() + 1, 3));
        rule(sixty + "+tolds", Due.fault(sixty.length() + 1, 0));
        rule(sixty + "+123456", Due.fault(sixty.length() + 1, 1));
        rule(sixty + "+", Due.fault(sixty.length() + 1, 0));
        rule(sixty + ";price 1", Due.fault(sixty.length() + 7, 3));
        rule(sixty + " if 1=1", Due.fault(sixty.length() + 4, 3));
        rule(sixty + " if [1=1]", Due.fault(sixty.length() + 5, 3));
        // 59 VALUES and a 60th, then a SIGN.
        String most = "price 1" + times("+1", 58);
        rule(most + " if 1=1", Due.fault(most.length() + 5, 3));
        rule(most + " if 1 >= 1", Due.fault(most.length() + 6, 3));
        // 57 VALUES, two of a FACT and its SIGN are 60.
        String fits = "price 1" + times("+1", 56);
        rule(fits + " if 1=1", 0);
        rule(fits + " if 1=1 and 1=1", Due.fault(fits.length() + 12, 3));
        rule(fits + " if 1=1+1", Due.fault(fits.length() + 8, 3));
        String twelve = "price 1" + times(";price 1", 11);
        rule(twelve, 0);
        rule(twelve + ";price 1", Due.fault(twelve.length() + 1, 4));
        rule(twelve + "; price", Due.fault(twelve.length() + 2, 4));
        rule(twelve + ";prices", Due.fault(twelve.length() + 1, 0));
        rule(twelve + ";", Due.fault(twelve.length() + 1, 0));
    }

    public static void main(String[] args) {
        shopSigns();
        shopNumbers();
        shopClauses();
        ruleSigns();
        ruleLimits();
        D.finish();
    }
}
