/** Promises 69 to 76: devices, traces, wishes and notices, the clock, the audit. */
public final class TraceTest {
    public static void main(String[] args) {
        refusals();
        events();
        devices();
        scansAmongEvents();
        notices();
        ticks();
        dayOrder();
        Check.finish();
    }

    private static void refusals() {
        PostHouse x = Town.built(0);
        x.item(0, 1, 0, 4, 1, 0);
        Check.due("69: UNKNOWN", x.device(8, -1) + x.device(-1, 0), 2 * Town.UNKNOWN);
        Check.due("69: OUTSIDE", x.device(0, -1) + x.device(0, 1000000001), 2 * Town.OUTSIDE);
        Check.due("70: UNKNOWN", x.scanned(8, 0, 10, 0) + x.scanned(-1, 0, 0, 0) + x.scanned(0, 1, 0, 0) + x.scanned(0, -1, 0, 0), 4 * Town.UNKNOWN);
        Check.due("70: OUTSIDE", x.scanned(0, 0, 10, 0) + x.scanned(0, 0, -1, 0) + x.scanned(0, 0, 0, -1), 3 * Town.OUTSIDE);
        Check.due("70: later than the clock", x.scanned(0, 0, 0, 1) + x.scanned(0, 0, 0, 1000000001), 2 * Town.OUTSIDE);
        Check.due("71: UNKNOWN", x.trace(1, 0, 9) + x.trace(-1, 0, 0), 2 * Town.UNKNOWN);
        Check.due("71: OUTSIDE", x.trace(0, 0, 3) + x.trace(0, 9, -1), 2 * Town.OUTSIDE);
        Check.due("71: none such", x.trace(0, 1, 0) + x.trace(0, -1, 0), -2);
        Check.due("72: UNKNOWN", x.wish(3, 9, true) + x.wish(5, 0, true) + x.wish(-1, 0, true), 3 * Town.UNKNOWN);
        Check.due("72: OUTSIDE", x.wish(4, 9, true) + x.wish(4, -1, false), 2 * Town.OUTSIDE);
        Check.due("73: OUTSIDE", x.notice(0, 4) + x.notice(0, -1), 2 * Town.OUTSIDE);
        Check.due("73: none such", x.notice(0, 0) + x.notice(-1, 0), -2);
    }

    private static String trace(PostHouse x, int item) {
        StringBuilder b = new StringBuilder();
        for (int i = 0; x.trace(item, i, 0) != Town.NONE; i++) {
            b.append(x.trace(item, i, 0)).append('/').append(x.trace(item, i, 1)).append('/').append(x.trace(item, i, 2)).append(' ');
        }
        return b.toString();
    }

    private static void events() {
        PostHouse x = Town.built(0);
        x.tick(5);
        int a = x.item(0, 10, 0, 4, 1, 0);
        x.address(a, 3);
        x.leg(0, 1, 20, 10, 1);
        x.bag(0, 1);
        x.tick(1);
        x.post(a, 0);
        x.tick(1);
        x.into(0, a);
        x.closeBag(0);
        x.tick(100);
        x.openBag(0);
        x.round(1, 0, 0);
        x.assign(3, 0);
        x.sort(0);
        x.tick(1);
        x.out(0);
        x.miss(a);
        Town.goOn(x, 7);
        Check.due("71: a long way", trace(x, a), "0/-1/5 1/0/6 2/0/7 1/1/107 3/1/107 4/1/108 6/1/108 1/1/10080 ");
        x.sort(0);
        x.out(0);
        x.hand(a, 1, 1, 0);
        Check.due("71: to its end", x.trace(a, 10, 0) * 10 + x.trace(a, 10, 1), 51);
        Check.due("10: events", x.count(13), 11);
        int b = x.item(0, 10, 0, 4, 1, 0);
        x.lose(b);
        Check.due("71: lost nowhere", trace(x, b), "0/-1/10188 8/-1/10188 ");
    }

    private static void devices() {
        PostHouse x = Town.built(0);
        int a = x.item(0, 10, 0, 4, 1, 0);
        x.tick(100);
        Check.due("69: its offset", x.device(7, 0), 100);
        Check.due("69: below 0", x.device(6, 1000000000), -999999900);
        Check.due("69: as a refusal's number", x.device(5, 201), Town.UNKNOWN);
        Check.due("10: but an act", x.count(16), 2 + 2 + 3);
        Check.due("70: at first 0", x.scanned(0, a, 0, 100), 1);
        Check.due("70: later than the clock", x.scanned(7, a, 0, 1), Town.OUTSIDE);
        Check.due("70: now", x.scanned(7, a, 1, 0), 1);
        Check.due("70: below 0", x.scanned(6, a, 0, 999999899), Town.OUTSIDE);
        Check.due("70: at 0", x.scanned(6, a, 2, 999999900), 1);
        Check.due("70: now", x.scanned(6, a, 3, 1000000000), 1);
        Check.due("70: now", x.scanned(5, a, 9, 201), 1);
        Check.due("71: by times, then as they came", trace(x, a), "0/-1/0 22/-1/0 20/-1/100 21/-1/100 23/-1/100 29/-1/100 ");
        x.tick(10);
        Check.due("69: told again", x.device(7, 120), -10);
        Check.due("70: the latest offset", x.scanned(7, a, 4, 60) * 1000 + x.trace(a, 2, 2), 1050);
    }

    private static void scansAmongEvents() {
        PostHouse x = Town.built(0);
        int a = x.item(0, 10, 0, 4, 1, 0), b = x.item(0, 10, 0, 4, 1, 0);
        x.tick(50);
        x.post(a, 0);
        x.scanned(0, a, 1, 50);
        x.scanned(0, a, 2, 30);
        x.scanned(0, b, 3, 20);
        x.scanned(0, a, 4, 30);
        x.scanned(0, a, 5, 0);
        x.lose(a);
        Check.due("71: its own alone", trace(x, a), "0/-1/0 25/-1/0 22/-1/30 24/-1/30 1/0/50 21/-1/50 8/0/50 ");
        Check.due("71: the other's", trace(x, b), "0/-1/0 23/-1/20 ");
        Check.due("10: all events", x.count(13), 9);
    }

    private static void notices() {
        PostHouse x = Town.built(0);
        x.account(0);
        Check.due("72: something new", x.wish(4, 0, true), 1);
        Check.due("72: nothing new", x.wish(4, 0, true), 0);
        Check.due("72: nothing new", x.wish(4, 8, false), 0);
        Check.due("72: all are acts", x.count(16), 3 + 3);
        x.tick(3);
        int a = x.item(0, 10, 0, 4, 1, 0);
        x.item(0, 10, 0, 5, 1, 0);
        x.wish(5, 1, true);
        x.wish(4, 8, true);
        x.post(a, 0);
        x.post(1, 1);
        x.scanned(0, a, 0, 1);
        Check.due("72: no more", x.wish(4, 0, false), 1);
        x.item(0, 10, 0, 4, 1, 0);
        x.tick(4);
        x.lose(a);
        Check.due("10: three notices", x.count(14), 3);
        int[][] due = {{4, 0, 0, 3}, {5, 1, 1, 3}, {4, 0, 8, 7}};
        for (int i = 0; i < 3; i++) for (int what = 0; what < 4; what++) Check.due("73: notice(" + i + ", " + what + ")", x.notice(i, what), due[i][what]);
        Check.due("73: none such", x.notice(3, 0), Town.NONE);
    }

    private static void ticks() {
        PostHouse x = new PostHouse();
        Check.due("74: OUTSIDE", x.tick(0) + x.tick(-1) + x.tick(1441), 3 * Town.OUTSIDE);
        Check.due("74: the clock's time", x.tick(1) + x.tick(1440), 1442);
        Check.due("75: now", x.now(), 1441);
        Check.due("76: audit", x.audit(), 0);
    }

    private static void dayOrder() {
        // On day 7: item 0 goes back before the money order is given back, and before line 0 leaves at minute 0.
        PostHouse x = Town.built(500);
        x.leg(0, 1, 0, 10, 1);
        int a = Town.posted(x, 0, 0, 1, 0), b = Town.posted(x, 0, 0, 1, 0);
        Town.bringOut(x, a);
        x.bag(0, 1);
        x.closeBag(0);
        x.miss(b);
        x.miss(a);
        x.wish(4, 1, true);
        x.tick(1440);
        Check.due("74: a line leaves as the day begins", x.bagAt(0, 4) * 10 + x.bagAt(0, 5), 1450);
        Town.goOn(x, 6);
        Check.due("74: both go back", x.about(a, 0) * 10 + x.about(b, 0), 11);
        Check.due("73: by numbers", x.notice(0, 1) * 10 + x.notice(1, 1), a * 10 + b);
    }
}
