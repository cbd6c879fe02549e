/**
 * Edges that no house can come to in the 512 calls for which the document promises anything: a ledger of 2000 bookings, of
 * which one is kept for each open money order, 5000 events and 3000 notices. What is told here is free then; that the class
 * keeps to these sentences all the same is tested for its own sake.
 */
public final class BeyondTest {
    public static void main(String[] args) {
        fullLedger();
        fullLedgerForOrders();
        ledgerAfterStart();
        manyEvents();
        Check.finish();
    }

    private static String entry(PostHouse x, int i) {
        return x.entry(i, 0) + " " + x.entry(i, 1) + " " + x.entry(i, 2) + " " + x.entry(i, 3);
    }

    private static void fullLedger() {
        PostHouse x = Town.built(1);
        Town.tariff(x, "K0,40=1;K1,40=0;");
        x.order(4, 5, 1);
        for (int k = 2; k < 1999; k++) Check.due("57: deposit " + k, x.deposit(4, 10), 10 * (k - 1));
        Check.due("10: one is kept free", x.count(11), 1999);
        Check.due("57: the ledger is full", x.deposit(4, 1), Town.ROOM);
        int a = Town.posted(x, 0, 1, 7, 0), b = Town.posted(x, 0, 2, 7, 50), c = Town.posted(x, 1, 0, 7, 0);
        Check.due("62: the ledger is full", x.frank(a), Town.ROOM);
        Check.due("62: no booking is wanted", x.frank(c), 0);
        Check.due("63: the ledger is full", x.order(4, 5, 1), Town.ROOM);
        Town.bringOut(x, b);
        Check.due("49: the ledger is full", x.hand(b, 1, 0, 151), Town.ROOM);
        Check.due("49: WRONG_SUM is told first", x.hand(b, 1, 0, 150), Town.WRONG_SUM);
        Check.due("49: no booking is wanted", x.hand(c, 1, 0, 0), 1);
        x.lose(a);
        Check.due("66: the ledger is full", x.claim(a, 1), Town.ROOM);
        Check.due("64: this one is kept", x.payOut(0, 5, 1), 1);
        Check.due("10: 2000", x.count(11), 2000);
        Check.due("59: the last one", entry(x, 1999), "3 1 1 -1");
        Check.due("66: no more", x.claim(a, 1), Town.ROOM);
        Check.due("76: audit", x.audit(), 0);
    }

    private static void fullLedgerForOrders() {
        PostHouse x = Town.built(5);
        for (int k = 1; k < 1996; k++) x.deposit(4, 5);
        Check.due("10: 1996 bookings", x.count(11), 1996);
        Check.due("63: an order wants two", x.order(4, 5, 1), 0);
        Check.due("63: another one", x.order(4, 5, 2), Town.NONE + 2);
        Check.due("63: no more", x.order(4, 5, 1), Town.ROOM);
        Check.due("57: nor a deposit", x.deposit(4, 1), Town.ROOM);
        Check.due("64: paid", x.payOut(1, 5, 1), 2);
        Check.due("57: what was kept is used", x.deposit(4, 1), Town.ROOM);
        Town.goOn(x, 30);
        Check.due("65: given back", x.orderAt(0, 0), 2);
        Check.due("10: 2000", x.count(11), 2000);
        PostHouse y = Town.built(5);
        Town.tariff(y, "K0,40=1;");
        for (int k = 1; k < 1999; k++) y.deposit(4, 5);
        int a = Town.posted(y, 0, 2, 7, 50);
        Town.bringOut(y, a);
        Check.due("49: two bookings, one has room", y.hand(a, 1, 0, 151), Town.ROOM);
        Check.due("63: two, one has room", y.order(4, 5, 1), Town.ROOM);
        int b = Town.posted(y, 0, 0, 7, 0);
        Check.due("62: one has room", y.frank(b), 1);
        Check.due("10: it is full now", y.count(11), 2000);
        PostHouse z = Town.built(5);
        for (int k = 1; k < 1998; k++) z.deposit(4, 5);
        int c = Town.posted(z, 0, 2, 7, 50), d = Town.posted(z, 0, 2, 7, 50);
        Town.bringOut(z, c);
        Check.due("49: one booking of two that have room", z.hand(c, 1, 0, 50), 1);
        Town.bringOut(z, d);
        Check.due("49: one of one", z.hand(d, 1, 0, 50), 1);
        Check.due("10: it is full now", z.count(11), 2000);
        PostHouse w = Town.built(5);
        Town.tariff(w, "K0,40=1;");
        for (int k = 1; k < 1998; k++) w.deposit(4, 5);
        int e = Town.posted(w, 0, 2, 7, 50), f = Town.posted(w, 0, 1, 7, 0);
        Town.bringOut(w, e);
        Check.due("49: two of two", w.hand(e, 1, 0, 151), 1);
        w.lose(f);
        Check.due("66: none has room", w.claim(f, 1), Town.ROOM);
        PostHouse v = Town.built(5);
        for (int k = 1; k < 1999; k++) v.deposit(4, 5);
        int g = Town.posted(v, 0, 1, 7, 0);
        v.lose(g);
        Check.due("66: one has room", v.claim(g, 1), 1);
    }

    private static void ledgerAfterStart() {
        PostHouse x = Town.built(5);
        x.order(4, 5, 1);
        x.sync();
        for (int k = 0; k < 3; k++) Check.due("6: four acts", Town.restart(x), 4);
        for (int k = 2; k < 1999; k++) x.deposit(4, 5);
        Check.due("57: room for all but one", x.count(11), 1999);
        Check.due("57: that is kept for the order", x.deposit(4, 5), Town.ROOM);
    }
    /** A house with a point in each of two places and lines both ways, of whose account 4 all sorts are wished. */
    private static PostHouse shuttle() {
        PostHouse x = new PostHouse();
        Town.book(x, "P1,A;P2,B;S1,A,0,0,0;R1,A,0,1,9;H1,A,1;S2,B,0,0,0;R2,B,0,1,9;H2,B,1;");
        x.account(0);
        x.leg(0, 1, 0, 1, 20);
        x.leg(1, 0, 0, 1, 20);
        for (int sort = 0; sort < 9; sort++) x.wish(4, sort, true);
        return x;
    }

    /** Carries items from one place to the other, in bags of forty, and turns their address round for the day. */
    private static int carry(PostHouse x, int items, int from, int bag) {
        if (from == 0) x.forward(0, 0, 1, x.now() / 1440 + 4);
        for (int i = 0; i < items; i++) {
            if (i % 40 == 0) x.bag(from, 1 - from);
            int b = bag + i / 40;
            x.into(b, i);
            if (i % 40 == 39 || i == items - 1) x.closeBag(b);
        }
        x.tick(1440);
        x.tick(1440);
        int end = bag + (items + 39) / 40;
        for (int b = bag; b < end; b++) x.openBag(b);
        return end;
    }

    private static void travel(PostHouse x, int items, int times) {
        for (int i = 0; i < items; i++) {
            x.item(0, 10, 0, 4, 1, 0);
            x.address(i, 0);
            x.post(i, 0);
        }
        int bag = 0;
        for (int k = 0; k < times; k++) {
            bag = carry(x, items, k % 2, bag);
            x.tick(1440);
            x.tick(1440);
        }
    }

    private static void manyEvents() {
        PostHouse x = shuttle();
        travel(x, 280, 9);
        Check.due("10: events", x.count(13), 280 * 20);
        Check.due("10: notices", x.count(14), 280 * 20);
        Check.due("73: the last that was kept", x.notice(2999, 0), 4);
        Check.due("73: others are counted alone", x.notice(3000, 0), Town.NONE);
        // 560 events of beginnings and 560 of each way: number 5000 is that of item 240 in the bags of the eighth way.
        Check.due("71: the last that was kept", x.trace(239, 17, 0) * 10 + x.trace(239, 18, 0), 9);
        Check.due("71: others are counted alone", x.trace(240, 16, 0) * 10 + x.trace(240, 17, 0), 19);
        Check.due("70: a scan is one more", x.scanned(0, 0, 0, 0) * 10000 + x.count(13), 15601);
        Check.due("71: it is not kept", x.trace(0, 18, 0), Town.NONE);
        Check.due("73: a scan makes no notice", x.count(14), 280 * 20);
        Check.due("76: audit", x.audit(), 0);
    }
}
