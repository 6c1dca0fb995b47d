import java.lang.management.ManagementFactory;

/** What calls leave in the room, and that no call throws, whatever its arguments and however many went ahead. */
public final class RoomTest {
    private static final Due D = new Due();
    private static final com.sun.management.ThreadMXBean ROOM = (com.sun.management.ThreadMXBean) ManagementFactory.getThreadMXBean();
    private static final String FULL = "shop 90 800;thing 99 90 9;thing 80 70 9;thing 70 80 9;thing 60 60 9;thing 50 60 9;thing 40 20 9;"
        + "thing 30 40 9;thing 20 10 9;want 0 9;want 1 9;want 2 9;want 3 9;want 4 9;want 5 9;sale 3 4 50;"
        + "percent 10 50;off 20 60;post 70;percent 5 80;off 9 90;again";
    private static final int[] ARGS = {0, 1, 2, 3, 4, 5, 6, 7, 8, 9, 10, 14, 15, 60, 99, 100, 400, 999, 1000, 9999, 30000, -1, -2,
        Integer.MAX_VALUE, Integer.MIN_VALUE};

    private static void ask(FortyBasket x, int a, int b, int c) {
        x.thing(a, b);
        x.code(a, b);
        x.want(a, b);
        x.dear(a, b, c);
        x.cost(a);
        x.order(a);
        x.fill(a);
        x.baskets(a);
        x.days(a);
        x.sent(a);
        x.join(a);
        x.freedom(a);
        x.receipt(a, b, c);
        x.ruled(a);
        x.probe(a, b, c);
        x.await(a, b);
        x.years(a, b, c);
        x.count(a);
    }

    private static void act(FortyBasket x, int a, int b, int c) {
        x.put(a);
        x.lay(a);
        x.look(b);
        x.put(b);
        x.drop(c);
        x.lift(c);
        x.day();
        x.buy();
        x.sendBack(a);
        x.undo();
        x.told(a, b, c, c);
        x.seed(c);
        x.force(a);
        x.image(a);
        x.back(b);
        x.end(c);
        x.feed(a, b, c, a, b);
    }

    private static FortyBasket full() {
        FortyBasket x = Due.shopped(FULL);
        Due.rule(x, "price told + looks * 2 if [not bought > 3 and stock < 5] or day % 2 = 0; price worth");
        x.force(0);
        for (int i = 0; i < 12; i++) {
            x.put(i % 8);
        }
        x.lay(0);
        x.lay(1);
        x.buy();
        for (int i = 0; i < 8; i++) {
            x.put(i);
        }
        return x;
    }

    private static void nothingIsMade() {
        FortyBasket x = full();
        ask(x, 0, 0, 0);
        act(full(), 0, 0, 0);
        long before = ROOM.getCurrentThreadAllocatedBytes();
        for (int i = 0; i < 8; i++) {
            ask(x, i, i % 2, i % 3);
            act(x, i, i % 3, i % 5);
        }
        long made = ROOM.getCurrentThreadAllocatedBytes() - before;
        D.holds("calls make nothing, not " + made + " bytes", made < 1024);
        before = ROOM.getCurrentThreadAllocatedBytes();
        x = new FortyBasket();
        made = ROOM.getCurrentThreadAllocatedBytes() - before;
        D.holds("an object is small, not of " + made + " bytes", made < 64 * 1024);
        before = ROOM.getCurrentThreadAllocatedBytes();
        x.shop();
        made = ROOM.getCurrentThreadAllocatedBytes() - before;
        D.holds("a shop is small, not of " + made + " bytes", made < 2048);
    }

    private static void nothingIsThrown() {
        FortyBasket[] all = {new FortyBasket(), Due.shopped("shop 0 0"), Due.shopped("shop 9 9;thing 1 1 1;want 0 0;post 0"), full()};
        for (FortyBasket x : all) {
            for (int a : ARGS) {
                for (int b : ARGS) {
                    ask(x, a, b, 0);
                    ask(x, 1, a, b);
                    act(x, a, b, a);
                    act(x, a, b, b);
                    x.shop();
                    x.rule();
                }
                x.back(0);
            }
        }
        D.holds("nothing was thrown", true);
    }

    private static void manyDays() {
        FortyBasket x = full();
        for (int i = 0; i < 1100; i++) {
            x.day();
        }
        ask(x, 0, 0, 0);
        D.is("years at the end of days", x.years(10, 60, 1) >= 0 ? 1 : 0, 1);
        D.is("the last day", x.count(7), 999);
    }

    public static void main(String[] args) {
        nothingIsMade();
        nothingIsThrown();
        manyDays();
        D.finish();
    }
}
