/** Promises 56 to 66: accounts, the ledger, the tariff, franking, money orders, claims. */
public final class MoneyTest {
    public static void main(String[] args) {
        accounts();
        deposits();
        ledger();
        tariffTexts();
        tariffFaults();
        prices();
        franking();
        orders();
        payingOut();
        givingBack();
        claims();
        Check.finish();
    }

    private static void accounts() {
        PostHouse x = new PostHouse();
        Check.due("58: POST, CASH, CLAIMS, ORDERS", x.balance(0) + x.balance(1) + x.balance(2) + x.balance(3), 0);
        Check.due("58: UNKNOWN", x.balance(4) + x.balance(-1), 2 * Town.UNKNOWN);
        Town.book(x, Town.BOOK);
        Check.due("56: UNKNOWN", x.account(5) + x.account(-1), 2 * Town.UNKNOWN);
        for (int k = 4; k < 34; k++) Check.due("56: its number", x.account(k % 5), k);
        Check.due("56: thirty accounts", x.account(0), Town.ROOM);
        Check.due("56: UNKNOWN is told first", x.account(5), Town.UNKNOWN);
        Check.due("58: the last one", x.balance(33), 0);
        Check.due("58: UNKNOWN", x.balance(34), Town.UNKNOWN);
    }

    private static void deposits() {
        PostHouse x = Town.built(0);
        Check.due("57: UNKNOWN", x.deposit(5, 0) + x.deposit(3, 10) + x.deposit(0, 10) + x.deposit(-1, 10), 4 * Town.UNKNOWN);
        Check.due("57: OUTSIDE", x.deposit(4, 0) + x.deposit(4, 1000001), 2 * Town.OUTSIDE);
        Check.due("57: its balance", x.deposit(4, 1000000), 1000000);
        Check.due("57: its balance", x.deposit(4, 1), 1000001);
        Check.due("58: from CASH", x.balance(1), -1000001);
        x.cut(0, 0);
        x.sync();
        Check.due("58: DOWN", x.balance(99), Town.DOWN);
    }

    private static String entry(PostHouse x, int i) {
        return x.entry(i, 0) + " " + x.entry(i, 1) + " " + x.entry(i, 2) + " " + x.entry(i, 3);
    }

    private static void ledger() {
        PostHouse x = Town.built(700);
        Check.due("59: a deposit", entry(x, 0), "1 4 700 -1");
        Check.due("59: none such", entry(x, 1), "-1 -1 -1 -1");
        Check.due("59: none such", x.entry(-1, 0), Town.NONE);
        Check.due("59: OUTSIDE", x.entry(0, 4) + x.entry(0, -1) + x.entry(9, 4), 3 * Town.OUTSIDE);
        x.order(4, 1, 50);
        Check.due("59: a money order", entry(x, 1), "4 3 50 -1");
        x.payOut(0, 1, 1);
        Check.due("59: paid out", entry(x, 2), "3 1 50 -1");
        Town.tariff(x, "K0,40=12;");
        int a = Town.posted(x, 0, 1, 7, 0);
        x.frank(a);
        Check.due("59: franked", entry(x, 3), "4 0 12 0");
        x.lose(a);
        x.claim(a, 7);
        Check.due("59: a claim", entry(x, 4), "2 4 7 0");
        Check.due("58: all", x.balance(0) + " " + x.balance(1) + " " + x.balance(2) + " " + x.balance(3) + " " + x.balance(4), "12 -650 -7 0 645");
    }

    private static void text(String text, int due) {
        Check.due("60: tariff of " + text, Town.tariff(new PostHouse(), text), due);
    }

    private static void tariffTexts() {
        text(Town.TARIFF, 6);
        text("K0,1=0;", 1);
        text("K3,30000=9999;", 1);
        text("V4=9999;V1=0;V2=000001;", 3);
        text("K0,5=1;K1,4=1;K0,6=1;K1,5=0;", 4);
        StringBuilder rows = new StringBuilder();
        for (int k = 1; k <= 41; k++) rows.append("K1,").append(k + 100).append("=5;");
        text(rows.substring(0, 40 * 9), 40);
        text(rows.toString(), -1000 - 40 * 9);
        text(rows.substring(0, 37 * 9) + "V1=1;V2=2;V4=3;", 40);
        text(rows.substring(0, 38 * 9) + "V1=1;V2=2;V4=3;", -1000 - 38 * 9 - 10);
    }

    private static void tariffFaults() {
        text("", -1000);
        text("P1,A;", -1000);
        text("K", -1001);
        text("K1", -1002);
        text("K1=5;", -1002);
        text("K1,=5;", -1003);
        text("K1,5,5;", -1004);
        text("K1,5=;", -1005);
        text("K1,5=5", -1006);
        text("K1,1234567=5;", -1009);
        text("V1,5=5;", -1002);
        text("V1=5;;", -1005);
        text("V1=5; ", -1005);
        String[] wrong = {"K4,5=5;", "K0,0=5;", "K0,30001=5;", "K0,5=10000;", "K1,7=5;", "K1,6=5;", "V0=5;", "V3=5;", "V8=5;", "V2=10000;", "V1=5;"};
        for (String w : wrong) text("K1,7=1;V1=9;" + w, -1012);
        text("K9,9=9;?", -1000);
    }

    private static int price(PostHouse x, int kind, int weight, int services) {
        return x.price(x.item(kind, weight, services, 4, 1, (services & 2) != 0 ? 5 : 0));
    }

    private static void prices() {
        PostHouse x = Town.built(0);
        Check.due("61: UNKNOWN", x.price(0) + x.price(-1), 2 * Town.UNKNOWN);
        Check.due("61: no tariff", price(x, 0, 1, 0), Town.NONE);
        Town.tariff(x, Town.TARIFF);
        Check.due("61: up to 50", price(x, 0, 50, 0), 80);
        Check.due("61: above", price(x, 0, 51, 0), 150);
        Check.due("61: up to 500", price(x, 0, 500, 0), 150);
        Check.due("61: above all", price(x, 0, 501, 0), Town.NONE);
        Check.due("61: no row of its kind", price(x, 3, 1, 0), Town.NONE);
        Check.due("61: registered", price(x, 1, 1, 1), 550);
        Check.due("61: cash on delivery", price(x, 1, 1, 2), 350);
        Check.due("61: by hand has no row", price(x, 1, 1, 4), 300);
        Check.due("61: all three", price(x, 2, 1, 7), 950);
        Check.due("61: no weight, whatever the services", price(x, 3, 1, 7), Town.NONE);
        Town.tariff(x, "K3,9=4;V4=3;");
        Check.due("61: another tariff takes its place", price(x, 3, 1, 7), 7);
        Check.due("61: and nothing of it is left", price(x, 0, 1, 0), Town.NONE);
        Town.tariff(x, "K0,9=4;V4=3;V4=3;");
        Check.due("60: nothing of a faulty one counts", price(x, 3, 1, 7), 7);
        Town.tariff(x, "V1=5;K0,5=1;V2=7;K0,6=2;");
        Check.due("61: in any order", price(x, 0, 6, 3), 14);
    }

    private static void franking() {
        PostHouse x = Town.built(229);
        Check.due("62: UNKNOWN", x.frank(0) + x.frank(-1), 2 * Town.UNKNOWN);
        int a = Town.posted(x, 0, 0, 7, 0), b = x.item(0, 60, 0, 4, 7, 0), c = x.item(0, 60, 0, 4, 7, 0);
        Check.due("62: no price", x.frank(a), Town.STATE);
        Town.tariff(x, Town.TARIFF);
        Check.due("62: IN", x.frank(a), 80);
        Check.due("27: franked", x.about(a, 11), 80);
        Check.due("62: it is franked", x.frank(a), Town.STATE);
        Check.due("62: 149 are left", x.frank(b), Town.POOR);
        Check.due("27: not franked", x.about(b, 11), Town.NONE);
        x.deposit(4, 1);
        Check.due("62: TOLD", x.frank(b), 150);
        Check.due("58: balances", x.balance(4) * 1000 + x.balance(0), 230);
        x.lose(c);
        Check.due("62: STATE is told before POOR", x.frank(c), Town.STATE);
        x.deposit(4, 500);
        int d = Town.posted(x, 0, 0, 7, 0);
        Town.bringOut(x, d);
        Check.due("62: OUT", x.frank(d), Town.STATE);
        x.refuse(d);
        Check.due("62: IN again", x.frank(d), 80);
        Town.tariff(x, "K0,90=0;");
        int entries = x.count(11);
        int e = x.item(0, 90, 0, 4, 7, 0);
        Check.due("62: a price of 0", x.frank(e), 0);
        Check.due("27: franked", x.about(e, 11), 0);
        Check.due("62: no booking", x.count(11), entries);
        Check.due("62: it is franked", x.frank(e), Town.STATE);
    }

    private static void orders() {
        PostHouse x = Town.built(100000);
        Check.due("63: UNKNOWN", x.order(3, 0, 0) + x.order(5, 1, 1) + x.order(-1, 1, 1), 3 * Town.UNKNOWN);
        Check.due("63: OUTSIDE", x.order(4, 0, 1) + x.order(4, 100, 1) + x.order(4, 1, 0) + x.order(4, 1, 100001), 4 * Town.OUTSIDE);
        Check.due("63: its number", x.order(4, 99, 99000), 0);
        Check.due("63: 1000 are left", x.order(4, 1, 1001), Town.POOR);
        Check.due("63: its number", x.order(4, 1, 500), 1);
        Check.due("58: balances", x.balance(4) * 1000000 + x.balance(3), 500099500);
        for (int k = 2; k < 60; k++) Check.due("63: its number", x.order(4, 1, 1), k);
        Check.due("63: sixty orders", x.order(4, 1, 1), Town.ROOM);
        Check.due("63: POOR is told first", x.order(4, 1, 10000), Town.POOR);
        Check.due("65: UNKNOWN", x.orderAt(60, 9) + x.orderAt(-1, 0), 2 * Town.UNKNOWN);
        Check.due("65: OUTSIDE", x.orderAt(0, 5) + x.orderAt(0, -1), 2 * Town.OUTSIDE);
    }

    private static String order(PostHouse x, int o) {
        return x.orderAt(o, 0) + " " + x.orderAt(o, 1) + " " + x.orderAt(o, 2) + " " + x.orderAt(o, 3) + " " + x.orderAt(o, 4);
    }

    private static void payingOut() {
        PostHouse x = Town.built(300);
        Town.goOn(x, 1);
        x.order(4, 8, 120);
        Check.due("64: UNKNOWN", x.payOut(1, 0, 0) + x.payOut(-1, 1, 1), 2 * Town.UNKNOWN);
        Check.due("64: OUTSIDE", x.payOut(0, 0, 1) + x.payOut(0, 100, 1) + x.payOut(0, 8, -1) + x.payOut(0, 8, 10000), 4 * Town.OUTSIDE);
        Check.due("64: another person", x.payOut(0, 9, 0), Town.NOT_HIM);
        Check.due("64: no proof", x.payOut(0, 8, 0), Town.NO_PROOF);
        Check.due("65: open", order(x, 0), "0 4 8 120 31");
        Check.due("64: its cents", x.payOut(0, 8, 9999), 120);
        Check.due("65: paid", order(x, 0), "1 4 8 120 31");
        Check.due("64: it is paid", x.payOut(0, 9, 0), Town.STATE);
        Check.due("58: balances", x.balance(1) * 1000 + x.balance(3) + x.balance(4), -180000 + 180);
        Town.goOn(x, 31);
        Check.due("74: what is paid is not given back", order(x, 0), "1 4 8 120 31");
    }

    private static void givingBack() {
        PostHouse x = Town.built(300);
        x.tick(700);
        x.order(4, 8, 120);
        Town.goOn(x, 29);
        x.tick(739);
        Check.due("65: a minute before", order(x, 0), "0 4 8 120 30");
        Check.due("75: the clock", x.now(), 30 * 1440 - 1);
        x.tick(1);
        Check.due("65: given back", order(x, 0), "2 4 8 120 30");
        Check.due("59: from ORDERS to the account", entry(x, 2), "3 4 120 -1");
        Check.due("58: its balance", x.balance(4), 300);
        Check.due("64: it is given back", x.payOut(0, 8, 1), Town.STATE);
    }

    private static void claims() {
        PostHouse x = Town.built(0);
        int a = Town.posted(x, 0, 1, 7, 0), b = Town.posted(x, 0, 6, 7, 9), c = Town.posted(x, 0, 5, 7, 0);
        Check.due("66: UNKNOWN", x.claim(3, 0) + x.claim(-1, 1), 2 * Town.UNKNOWN);
        Check.due("66: OUTSIDE", x.claim(a, 0) + x.claim(a, 100001), 2 * Town.OUTSIDE);
        Check.due("66: it is not LOST", x.claim(a, 1), Town.STATE);
        x.lose(a);
        x.lose(b);
        x.lose(c);
        Check.due("66: not registered", x.claim(b, 1), Town.STATE);
        Check.due("66: 5000 at most", x.claim(a, 100000), 5000);
        Check.due("66: it was claimed", x.claim(a, 1), Town.STATE);
        Check.due("66: less", x.claim(c, 4999), 4999);
        Check.due("58: from CLAIMS", x.balance(2) * 100000 + x.balance(4), -999900000L + 9999);
    }
}
