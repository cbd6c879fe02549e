/** All that a house tells, written out, so that two houses can be compared. */
final class Whole {
    private final PostHouse x;
    private final StringBuilder b = new StringBuilder();

    private Whole(PostHouse x) {
        this.x = x;
    }

    /** With the log's counts. */
    static String of(PostHouse x) {
        Whole w = new Whole(x);
        w.tell("log", x.count(15), x.count(16), x.count(17));
        return w.house();
    }

    /** What its acts made of it, without what its log has of them. */
    static String ofActs(PostHouse x) {
        return new Whole(x).house();
    }

    private void tell(String name, long... numbers) {
        b.append(name);
        for (long n : numbers) b.append(' ').append(n);
        b.append("; ");
    }

    private String house() {
        for (int what = 0; what <= 14; what++) b.append(x.count(what)).append(' ');
        tell("now", x.now(), x.read(), x.passes(), x.mended(), x.wrong(0), x.wrong(1));
        tell("lines", x.textLine(0, 0), x.textLine(1, 0), x.textLine(0, 1), x.textLine(0, 2), x.sign(0, 0, 4));
        for (int p = 0; p < x.count(3); p++) tell("point " + p, x.pointAt(p, 5), x.lastPoint(p, 1));
        for (int item = 0; item < x.count(5); item++) item(item);
        for (int r = 0; r < x.count(6); r++) {
            b.append("round ");
            for (int k = 0; x.stop(r, k) >= 0; k++) b.append(x.stop(r, k)).append(' ');
            for (int k = 0; x.row(r, k) >= 0; k++) b.append('/').append(x.row(r, k));
        }
        for (int to = 1; to < x.count(0); to++) tell("way", x.way(0, to, 0), x.way(0, to, 1), x.way(to, 0, 0));
        for (int g = 0; g < x.count(8); g++) tell("bag", x.bagAt(g, 0), x.bagAt(g, 1), x.bagAt(g, 3), x.bagAt(g, 4), x.bagAt(g, 5));
        for (int l = 0; l < x.count(9); l++) tell("locker", x.lockerAt(l, 1), x.lockerAt(l, 2), x.lockerAt(l, 3));
        money();
        for (int i = 0; i < x.count(14); i++) tell("notice", x.notice(i, 0), x.notice(i, 1), x.notice(i, 2), x.notice(i, 3));
        return b.toString();
    }

    private void item(int item) {
        b.append("item ");
        for (int what = 0; what <= 16; what++) b.append(x.about(item, what)).append(' ');
        for (int i = 0; x.trace(item, i, 0) >= 0; i++) b.append(x.trace(item, i, 0)).append('@').append(x.trace(item, i, 2)).append(' ');
        tell("price", x.price(item));
    }

    private void money() {
        for (int a = 0; a < 4 + x.count(10); a++) tell("balance", x.balance(a));
        for (int i = 0; i < x.count(11); i++) tell("booking", x.entry(i, 0), x.entry(i, 1), x.entry(i, 2), x.entry(i, 3));
        for (int o = 0; o < x.count(12); o++) tell("order", x.orderAt(o, 0), x.orderAt(o, 1), x.orderAt(o, 2), x.orderAt(o, 3), x.orderAt(o, 4));
    }
}
