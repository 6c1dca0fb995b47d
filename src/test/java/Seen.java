/** All of an object that can be seen without a change of it. */
final class Seen {
    private Seen() { }

    static String of(FortyBasket x) {
        StringBuilder b = new StringBuilder();
        for (int what = 0; what < 15; what++) {
            b.append(x.count(what)).append(' ');
        }
        for (int t = 0; t < 8; t++) {
            for (int what = 0; what < 8; what++) {
                b.append(what == 0 ? " | " : " ").append(x.thing(t, what));
            }
            b.append(' ').append(x.dear(t, 2, 3)).append(' ').append(x.probe(t, 2, 0));
        }
        for (int c = 0; c < 5; c++) {
            for (int what = 0; what < 6; what++) {
                b.append(what == 0 ? " | " : " ").append(x.code(c, what));
            }
        }
        for (int w = 0; w < 6; w++) {
            b.append(" | ").append(x.want(w, 0)).append(' ').append(x.want(w, 1));
        }
        b.append(" | ").append(x.cost(0)).append(' ').append(x.cost(1)).append(' ').append(x.sent(0));
        b.append(' ').append(x.ruled(0)).append(' ').append(x.ruled(1)).append(' ').append(x.years(1, 9, 0));
        return b.toString();
    }
}
