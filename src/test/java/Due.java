import java.nio.charset.StandardCharsets;

/** Counts and prints the answers that are not as due. */
final class Due {
    private int looked = 0;
    private int wrong = 0;

    void is(String call, long got, long due) {
        looked++;
        if (got != due) {
            wrong++;
            System.out.println(call + " answered " + got + ", due is " + due);
        }
    }

    void holds(String what, boolean so) {
        looked++;
        if (!so) {
            wrong++;
            System.out.println("not so: " + what);
        }
    }

    int wrong() {
        return wrong;
    }

    void finish() {
        if (wrong > 0) {
            System.out.println(wrong + " of " + looked + " answers are not as due");
            System.exit(1);
        }
        System.out.println("all " + looked + " answers are as due");
    }

    /** The text comes behind a TAPE that is empty, and stands there alone. */
    static FortyBasket tape(FortyBasket x, String text) {
        byte[] bytes = text.getBytes(StandardCharsets.ISO_8859_1);
        for (int from = 0; from < bytes.length; from += 20) {
            x.feed(four(bytes, from), four(bytes, from + 4), four(bytes, from + 8), four(bytes, from + 12), four(bytes, from + 16));
        }
        x.end(bytes.length);
        return x;
    }

    static int four(byte[] bytes, int from) {
        int all = 0;
        for (int i = from; i < from + 4; i++) {
            all = all << 8 | (i < bytes.length ? bytes[i] & 255 : 0);
        }
        return all;
    }

    static int shop(FortyBasket x, String text) {
        return tape(x, text).shop();
    }

    static int rule(FortyBasket x, String text) {
        return tape(x, text).rule();
    }

    static FortyBasket shopped(String text) {
        FortyBasket x = new FortyBasket();
        if (shop(x, text) < 0) {
            throw new IllegalStateException(text);
        }
        return x;
    }

    /** What is answered for a FAULT of a kind at a place. */
    static int fault(int place, int kind) {
        return -2 - (1 + 8 * place + kind);
    }
}
