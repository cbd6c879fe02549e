/** Promises 49 to 55, 67 and 68: doors, what is held, lockers, losses. */
public final class DeliveryTest {
    public static void main(String[] args) {
        handRefusals();
        handOverOrder();
        handOverMoney();
        missing();
        refusing();
        backAndDead();
        lockerRefusals();
        putRefusals();
        boxes();
        keys();
        barred();
        boxesGoBack();
        pickingUp();
        losing();
        Check.finish();
    }

    private static int out(PostHouse x, int kind, int services, int person, int cents) {
        int item = Town.posted(x, kind, services, person, cents);
        Town.bringOut(x, item);
        return item;
    }

    private static void handRefusals() {
        PostHouse x = Town.built(0);
        int a = out(x, 0, 0, 7, 0);
        Check.due("49: UNKNOWN", x.hand(1, 0, 0, 0) + x.hand(-1, 1, 0, 0), 2 * Town.UNKNOWN);
        int[][] outside = {{0, 0, 0}, {100, 0, 0}, {1, -1, 0}, {1, 10000, 0}, {1, 0, -1}, {1, 0, 1000001}};
        for (int[] h : outside) {
            Check.due("49: OUTSIDE", x.hand(a, h[0], h[1], h[2]), Town.OUTSIDE);
            Check.due("53: OUTSIDE", x.pickUp(a, h[0], h[1], h[2]), Town.OUTSIDE);
        }
        Check.due("53: UNKNOWN", x.pickUp(1, 0, 0, 0) + x.pickUp(-1, 1, 0, 0), 2 * Town.UNKNOWN);
        Check.due("53: it is OUT", x.pickUp(a, 7, 0, 0), Town.STATE);
        int b = Town.posted(x, 0, 0, 7, 0);
        Check.due("49: it is IN", x.hand(b, 7, 0, 0), Town.STATE);
        Check.due("49: the most cents", x.hand(a, 99, 9999, 1000000), Town.WRONG_SUM);
        Check.due("49: anybody", x.hand(a, 99, 9999, 0), 1);
        Check.due("27: DELIVERED", x.about(a, 0), 5);
        Check.due("49: it is DELIVERED", x.hand(a, 99, 0, 0), Town.STATE);
    }

    private static void handOverOrder() {
        PostHouse x = Town.built(0);
        int a = out(x, 0, 7, 7, 500);
        Check.due("49: by hand", x.hand(a, 8, 0, 0), Town.NOT_HIM);
        Check.due("49: registered", x.hand(a, 7, 0, 0), Town.NO_PROOF);
        Check.due("49: 500 are due", x.hand(a, 7, 1, 499), Town.WRONG_SUM);
        Check.due("49: more is wrong, too", x.hand(a, 7, 1, 501), Town.WRONG_SUM);
        Check.due("27: it is OUT still", x.about(a, 0), 4);
        Check.due("49: right", x.hand(a, 7, 1, 500), 1);
        int b = out(x, 0, 3, 7, 5);
        Check.due("49: not by hand: anybody, with a proof", x.hand(b, 8, 0, 5), Town.NO_PROOF);
        Check.due("49: anybody", x.hand(b, 8, 3, 5), 1);
        int c = out(x, 0, 4, 7, 0);
        Check.due("49: not registered: no proof is wanted", x.hand(c, 7, 0, 0), 1);
    }

    private static String entry(PostHouse x, int i) {
        return x.entry(i, 0) + " " + x.entry(i, 1) + " " + x.entry(i, 2) + " " + x.entry(i, 3);
    }

    private static void handOverMoney() {
        PostHouse x = Town.built(0);
        Town.tariff(x, Town.TARIFF);
        int a = out(x, 0, 2, 7, 500);
        Check.due("27: price, 100, cents", x.about(a, 16), 80 + 50 + 100 + 500);
        Town.tariff(x, "K0,40=9;");
        Check.due("27: by the tariff now", x.about(a, 16), 609);
        Check.due("49: handed over", x.hand(a, 1, 0, 609), 1);
        Check.due("49: the price to POST", entry(x, 0), "1 0 109 0");
        Check.due("49: then the cents to its account", entry(x, 1), "1 4 500 0");
        Check.due("58: balances", x.balance(0) * 1000000 - x.balance(1) * 1000 + x.balance(4), 109609500);
        int b = out(x, 1, 2, 7, 30);
        Check.due("27: it has no price: no 100 either", x.about(b, 16), 30);
        Check.due("49: one booking", x.hand(b, 1, 0, 30) * 100 + x.count(11), 103);
        int c = Town.posted(x, 0, 2, 7, 40);
        Check.due("62: franked", x.frank(c), 9);
        Town.bringOut(x, c);
        Check.due("27: nothing is due for the price", x.about(c, 16), 40);
        x.refuse(c);
        Check.due("27: GOING BACK: no cents", x.about(c, 16), 0);
        int bookings = x.count(11);
        x.round(1, 0, 0);
        x.assign(3, 1);
        int d = x.item(0, 30, 6, 4, 7, 40);
        x.address(d, 3);
        x.post(d, 1);
        x.sort(1);
        x.out(1);
        x.refuse(d);
        x.sort(1);
        x.out(1);
        Check.due("49: GOING BACK: nobody is asked, no cents are due", x.hand(d, 99, 0, 149), Town.WRONG_SUM);
        Check.due("49: but the price is", x.hand(d, 99, 0, 109), 1);
        Check.due("59: one booking", entry(x, bookings), "1 0 109 " + d);
        Check.due("10: no more", x.count(11), bookings + 1);
        Town.tariff(x, "K0,40=0;");
        int e = Town.posted(x, 0, 0, 7, 0);
        Check.due("62: a price of 0", x.frank(e), 0);
        Town.bringOut(x, e);
        Check.due("49: nothing is due", x.hand(e, 1, 0, 0), 1);
        Check.due("10: bookings of 0 are none", x.count(11), bookings + 1);
    }

    private static void missing() {
        PostHouse x = Town.built(0);
        Town.goOn(x, 2);
        int a = out(x, 0, 0, 7, 0);
        Check.due("50: UNKNOWN", x.miss(1) + x.miss(-1), 2 * Town.UNKNOWN);
        Check.due("50: the seventh day", x.miss(a), 9);
        Check.due("27: HELD", x.about(a, 0) * 10 + x.about(a, 14), 69);
        Check.due("50: HELD already", x.miss(a), Town.STATE);
        x.tick(1439);
        Town.goOn(x, 6);
        Check.due("27: HELD still", x.about(a, 0) * 100000 + x.now(), 6 * 100000 + 9 * 1440 - 1);
        x.tick(1);
        Check.due("74: its day has come", x.about(a, 0), 1);
        Check.due("27: it is GOING BACK", x.about(a, 10) * 10 + x.about(a, 14), 9);
    }

    private static void refusing() {
        PostHouse x = Town.built(0);
        int a = out(x, 0, 0, 7, 0);
        Check.due("51: UNKNOWN", x.refuse(1) + x.refuse(-1), 2 * Town.UNKNOWN);
        Check.due("51: IN again", x.refuse(a), 1);
        Check.due("27: at the place where it was IN last", x.about(a, 8) * 10 + x.about(a, 10), 1);
        Check.due("51: it is IN", x.refuse(a), Town.STATE);
        int b = out(x, 0, 0, 7, 0);
        x.miss(b);
        Check.due("51: HELD", x.refuse(b), 1);
        int c = out(x, 0, 0, 7, 0);
        x.locker(0, 1);
        x.put(c, 0);
        Check.due("51: HELD in a locker", x.refuse(c), Town.STATE);
        int d = out(x, 0, 0, 7, 0);
        x.hand(d, 1, 0, 0);
        Check.due("51: DELIVERED", x.refuse(d), Town.STATE);
    }

    private static void backAndDead() {
        PostHouse x = new PostHouse();
        Town.book(x, Town.BOOK);
        x.account(2);
        x.round(0, 0, 0);
        x.assign(0, 0);
        x.assign(2, 0);
        int a = out(x, 0, 0, 7, 0);
        int b = out(x, 0, 0, 7, 0);
        x.refuse(a);
        x.refuse(b);
        Check.due("36: both go home", x.sort(0), 2);
        x.out(0);
        x.wish(4, 7, true);
        Check.due("51: refused again: DEAD", x.refuse(a), 7);
        Check.due("51: it is DEAD", x.refuse(a), Town.STATE);
        x.miss(b);
        Town.goOn(x, 7);
        Check.due("74: missed at home: DEAD", x.about(b, 0), 7);
        Check.due("73: in the beginning of the seventh day", x.notice(1, 3), 7 * 1440);
        Check.due("55: DEAD", x.lose(a), Town.STATE);
    }

    private static void lockerRefusals() {
        PostHouse x = Town.built(0);
        Check.due("67: UNKNOWN", x.locker(2, 0) + x.locker(-1, 1), 2 * Town.UNKNOWN);
        Check.due("67: OUTSIDE", x.locker(0, 0) + x.locker(0, 11), 2 * Town.OUTSIDE);
        for (int k = 0; k < 8; k++) Check.due("67: its number", x.locker(k % 2, 10 - k), k);
        Check.due("67: eight lockers", x.locker(0, 1), Town.ROOM);
        Check.due("67: OUTSIDE is told first", x.locker(0, 11), Town.OUTSIDE);
        Check.due("68: place, boxes, free, wrong keys", x.lockerAt(3, 0) * 1000 + x.lockerAt(3, 1) * 100 + x.lockerAt(3, 2) * 10 + x.lockerAt(3, 3), 1770);
        Check.due("68: UNKNOWN", x.lockerAt(8, 9) + x.lockerAt(-1, 0), 2 * Town.UNKNOWN);
        Check.due("68: OUTSIDE", x.lockerAt(0, 4) + x.lockerAt(0, -1), 2 * Town.OUTSIDE);
        Check.due("52: UNKNOWN", x.put(0, 0) + x.put(-1, 0), 2 * Town.UNKNOWN);
        int a = out(x, 0, 0, 7, 0);
        Check.due("52: UNKNOWN", x.put(a, 8) + x.put(a, -1), 2 * Town.UNKNOWN);
        Check.due("54: UNKNOWN", x.openBox(8, 0) + x.openBox(-1, 0), 2 * Town.UNKNOWN);
    }

    private static void putRefusals() {
        PostHouse x = Town.built(900);
        x.locker(0, 2);
        x.locker(1, 2);
        int a = out(x, 1, 0, 7, 0);
        Check.due("52: another place", x.put(a, 1), Town.STATE);
        Check.due("52: kind 2", x.put(out(x, 2, 0, 7, 0), 0), Town.STATE);
        Check.due("52: registered", x.put(out(x, 0, 1, 7, 0), 0), Town.STATE);
        Check.due("52: by hand", x.put(out(x, 0, 4, 7, 0), 0), Town.STATE);
        Check.due("52: cents are due", x.put(out(x, 0, 2, 7, 5), 0), Town.STATE);
        Check.due("52: it is IN", x.put(Town.posted(x, 0, 0, 7, 0), 0), Town.STATE);
        Town.tariff(x, "K1,100=5;V2=1;");
        Check.due("52: its price is due", x.put(a, 0), Town.STATE);
        Town.tariff(x, "K0,100=5;V2=1;");
        Check.due("52: as much for the price as in cents", x.put(out(x, 0, 2, 7, 106), 0), Town.STATE);
        Check.due("52: it has no price", x.put(a, 0), 0);
        int b = Town.posted(x, 0, 0, 7, 0);
        x.frank(b);
        Town.bringOut(x, b);
        Check.due("52: it is franked", x.put(b, 0), 1);
        Check.due("52: it is HELD", x.put(b, 0), Town.STATE);
        int c = out(x, 1, 0, 7, 0);
        Check.due("52: no box", x.put(c, 0), Town.ROOM);
        Check.due("52: STATE is told first", x.put(c, 1), Town.STATE);
    }

    private static int key(int item) {
        return 1000 + (((item + 1) * 1103515245 + 12345) >>> 16) % 9000;
    }

    private static void boxes() {
        PostHouse x = Town.built(0);
        x.locker(0, 3);
        int a = out(x, 0, 0, 7, 0), b = out(x, 0, 0, 7, 0), c = out(x, 0, 0, 7, 0), d = out(x, 0, 0, 7, 0);
        Town.goOn(x, 1);
        Check.due("52: the least free box", x.put(b, 0) * 100 + x.put(a, 0) * 10 + x.put(c, 0), 12);
        Check.due("27: HELD till the third day", x.about(b, 0) * 10 + x.about(b, 14), 64);
        Check.due("27: its locker", x.about(b, 15), 0);
        Check.due("68: none is free", x.lockerAt(0, 2), 0);
        Check.due("54: the item of a key", x.openBox(0, key(a)), a);
        Check.due("27: DELIVERED", x.about(a, 0) * 10 + x.about(a, 15) + x.about(a, 14), 48);
        Check.due("68: its box is free", x.lockerAt(0, 2), 1);
        Check.due("52: and the least", x.put(d, 0), 1);
        Check.due("54: its key opens no more", x.openBox(0, key(a)), Town.NONE);
        Check.due("53: it is in a locker", x.pickUp(d, 7, 0, 0), Town.STATE);
        Check.due("49: it is HELD", x.hand(d, 7, 0, 0), Town.STATE);
        Check.due("76: audit", x.audit(), 0);
    }

    private static void keys() {
        PostHouse x = Town.built(0);
        x.locker(0, 10);
        // ((item + 1) * 1103515245 + 12345) wrapped and shifted: 16838 for item 0.
        int a = out(x, 0, 0, 7, 0);
        x.put(a, 0);
        Check.due("54: the key of item 0", x.openBox(0, 1000 + 16838 % 9000), 0);
        for (int k = 1; k < 40; k++) {
            int item = out(x, 0, 0, 7, 0);
            x.put(item, 0);
            long product = (item + 1L) * 1103515245L + 12345L & 0xFFFFFFFFL;
            Check.due("54: the key of item " + item, x.openBox(0, 1000 + (int) ((product >> 16) % 9000)), item);
        }
        // When something comes to be due later, the key still opens.
        int b = out(x, 0, 0, 7, 0);
        x.put(b, 0);
        Town.tariff(x, Town.TARIFF);
        int bookings = x.count(11);
        Check.due("54: the key opens", x.openBox(0, key(b)), b);
        Check.due("54: and nothing is booked", x.count(11), bookings);
    }

    private static void barred() {
        PostHouse x = Town.built(0);
        x.locker(0, 2);
        x.locker(0, 2);
        int a = out(x, 0, 0, 7, 0), b = out(x, 0, 0, 7, 0);
        x.put(a, 0);
        x.put(b, 0);
        Check.due("54: a wrong key", x.openBox(0, key(a) + 1), Town.NONE);
        Check.due("54: any number", x.openBox(0, Integer.MIN_VALUE), Town.NONE);
        Check.due("54: a right one does not take back", x.openBox(0, key(a)), a);
        Check.due("54: the third wrong one", x.openBox(0, 0), Town.NONE);
        Check.due("68: three", x.lockerAt(0, 3), 3);
        Check.due("54: BARRED", x.openBox(0, key(b)), Town.BARRED);
        Check.due("68: what is refused is not counted", x.lockerAt(0, 3), 3);
        Check.due("54: another one is not", x.openBox(1, 5), Town.NONE);
        x.tick(1439);
        Check.due("54: BARRED that day", x.openBox(0, key(b)), Town.BARRED);
        x.tick(1);
        Check.due("68: a new day", x.lockerAt(0, 3) + x.lockerAt(1, 3), 0);
        Check.due("54: BARRED no more", x.openBox(0, key(b)), b);
    }

    private static void boxesGoBack() {
        PostHouse x = Town.built(0);
        x.locker(0, 2);
        int a = out(x, 0, 0, 7, 0), b = out(x, 0, 0, 7, 0);
        x.put(a, 0);
        x.put(b, 0);
        x.tick(1439);
        Town.goOn(x, 2);
        Check.due("27: HELD still", x.about(a, 0), 6);
        x.wish(4, 1, true);
        x.tick(1);
        Check.due("74: IN again", x.about(a, 0) * 10 + x.about(a, 15) + x.about(a, 14), 8);
        Check.due("74: it left its box", x.lockerAt(0, 2), 2);
        Check.due("74: by numbers", x.notice(0, 1) * 10 + x.notice(1, 1), a * 10 + b);
        Check.due("76: audit", x.audit(), 0);
        PostHouse y = new PostHouse();
        Town.book(y, Town.BOOK);
        y.account(0);
        y.locker(0, 1);
        int c = out(y, 0, 0, 7, 0);
        y.refuse(c);
        Town.bringOut(y, c);
        Check.due("52: GOING BACK, in a box at home", y.put(c, 0), 0);
        Town.goOn(y, 3);
        Check.due("74: DEAD", y.about(c, 0), 7);
        Check.due("68: it left its box", y.lockerAt(0, 2), 1);
        Check.due("76: audit", y.audit(), 0);
    }

    private static void pickingUp() {
        PostHouse x = Town.built(0);
        int a = out(x, 0, 7, 7, 50);
        x.miss(a);
        Check.due("53: by hand", x.pickUp(a, 8, 1, 50), Town.NOT_HIM);
        Check.due("53: registered", x.pickUp(a, 7, 0, 50), Town.NO_PROOF);
        Check.due("53: 50 are due", x.pickUp(a, 7, 1, 0), Town.WRONG_SUM);
        Check.due("53: handed over", x.pickUp(a, 7, 1, 50), 1);
        Check.due("27: DELIVERED", x.about(a, 0) + x.about(a, 14), 4);
        Check.due("58: its cents", x.balance(4), 50);
        Check.due("53: DELIVERED", x.pickUp(a, 7, 1, 50), Town.STATE);
    }

    private static void losing() {
        PostHouse x = Town.built(0);
        Check.due("55: UNKNOWN", x.lose(0) + x.lose(-1), 2 * Town.UNKNOWN);
        x.locker(0, 1);
        int a = out(x, 0, 0, 7, 0);
        x.put(a, 0);
        Check.due("55: from its box", x.lose(a), 1);
        Check.due("68: it is free", x.lockerAt(0, 2), 1);
        Check.due("27: in no locker, HELD till no day", x.about(a, 15) + x.about(a, 14), -2);
        Check.due("55: LOST", x.lose(a), Town.STATE);
        int b = x.item(0, 1, 0, 4, 1, 0);
        Check.due("55: TOLD", x.lose(b), 1);
        int c = out(x, 0, 0, 7, 0);
        x.hand(c, 7, 0, 0);
        Check.due("55: DELIVERED", x.lose(c), Town.STATE);
        int d = out(x, 0, 0, 7, 0);
        Check.due("55: OUT", x.lose(d), 1);
        int e = Town.posted(x, 0, 0, 1, 0);
        x.sort(0);
        Check.due("55: SORTED", x.lose(e) + x.row(0, 0), 0);
        Check.due("76: audit", x.audit(), 0);
    }
}
