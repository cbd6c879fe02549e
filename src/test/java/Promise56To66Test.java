/** Promises 56 to 66, edge by edge: accounts, bookings, the tariff, prices, franking, money orders, claims. */
public final class Promise56To66Test {
    public static void main(String[] args) {
        promise56Account();
        promise56Room();
        promise57Refusals();
        promise57Deposit();
        promise58Balance();
        promise59Entry();
        promise60Rows();
        promise60TextsEnd();
        promise60BytesThatCannotStand();
        promise60RowsForKinds();
        promise60RowsForServices();
        promise60FortyRows();
        promise60TakesThePlace();
        promise60LongText();
        promise61Price();
        promise61Services();
        promise62Refusals();
        promise62States();
        promise62Poor();
        promise62Nothing();
        promise63Refusals();
        promise63Poor();
        promise63Room();
        promise64Refusals();
        promise64Order();
        promise64PaidOnce();
        promise65OrderAt();
        promise65ThirtyDays();
        promise65GivenBackByNumbers();
        promise66Refusals();
        promise66States();
        promise66Others();
        promise66Cents();
        Check.finish();
    }

    private static String entry(PostHouse x, int i) {
        return x.entry(i, 0) + " " + x.entry(i, 1) + " " + x.entry(i, 2) + " " + x.entry(i, 3);
    }

    private static void promise56Account() {
        new Refusals("56", () -> Town.built(5))
            .due(Town.UNKNOWN, "point -1", x -> x.account(-1))
            .due(Town.UNKNOWN, "point 5 of five", x -> x.account(5))
            .changedNothing();
        PostHouse x = new PostHouse();
        Check.due("56: no point", x.account(0), Town.UNKNOWN);
        Town.book(x, Town.BOOK);
        Check.due("56: the first is 4", x.account(4), 4);
        Check.due("56: another one with one home", x.account(4), 5);
        Check.due("10: two", x.count(10), 2);
        Check.due("58: 0 at first", x.balance(4) + x.balance(5), 0);
    }

    private static void promise56Room() {
        PostHouse x = Town.built(0);
        for (int k = 5; k <= 33; k++) Check.due("56: its number", x.account(k % 5), k);
        Check.due("56: the 31st", x.account(0), Town.ROOM);
        Check.due("56: UNKNOWN before ROOM", x.account(5), Town.UNKNOWN);
        Check.due("10: thirty", x.count(10), 30);
        Check.due("57: the last one", x.deposit(33, 7), 7);
        Check.due("57: none behind it", x.deposit(34, 7), Town.UNKNOWN);
        Check.due("58: balances", x.balance(33) * 1000 + x.balance(34), 7000 + Town.UNKNOWN);
        Check.due("72: the last one", x.wish(33, 0, true), 1);
        Check.due("22: the last one", x.item(0, 1, 0, 33, 1, 0), 0);
        Check.due("73: its notice", x.notice(0, 0), 33);
    }

    private static void promise57Refusals() {
        new Refusals("57", () -> Town.built(5))
            .due(Town.UNKNOWN, "account -1", x -> x.deposit(-1, 1))
            .due(Town.UNKNOWN, "POST", x -> x.deposit(0, 1))
            .due(Town.UNKNOWN, "CASH", x -> x.deposit(1, 1))
            .due(Town.UNKNOWN, "CLAIMS", x -> x.deposit(2, 1))
            .due(Town.UNKNOWN, "ORDERS", x -> x.deposit(3, 1))
            .due(Town.UNKNOWN, "account 5 of one", x -> x.deposit(5, 1))
            .due(Town.UNKNOWN, "UNKNOWN before OUTSIDE", x -> x.deposit(5, 0))
            .due(Town.OUTSIDE, "0 cents", x -> x.deposit(4, 0))
            .due(Town.OUTSIDE, "-1 cents", x -> x.deposit(4, -1))
            .due(Town.OUTSIDE, "1000001 cents", x -> x.deposit(4, 1000001))
            .changedNothing();
    }

    private static void promise57Deposit() {
        PostHouse x = Town.built(0);
        x.account(0);
        Check.due("57: one cent", x.deposit(4, 1), 1);
        Check.due("57: the most", x.deposit(4, 1000000), 1000001);
        Check.due("57: of another account", x.deposit(5, 3), 3);
        Check.due("58: CASH", x.balance(1), -1000004);
        Check.due("59: bookings", entry(x, 0) + ", " + entry(x, 1) + ", " + entry(x, 2), "1 4 1 -1, 1 4 1000000 -1, 1 5 3 -1");
        for (int k = 0; k < 400; k++) x.deposit(4, 1000000);
        Check.due("57: much", x.deposit(4, 1000000), 402000001);
        Check.due("58: much", x.balance(1), -402000004);
    }

    private static void promise58Balance() {
        PostHouse x = Town.built(70);
        Check.due("58: account -1", x.balance(-1), Town.UNKNOWN);
        for (int account = 0; account <= 4; account++) Check.due("58: account " + account, x.balance(account), new int[] {0, -70, 0, 0, 70}[account]);
        Check.due("58: account 5 of one", x.balance(5), Town.UNKNOWN);
        Check.due("58: far away", x.balance(Integer.MAX_VALUE) + x.balance(Integer.MIN_VALUE), 2 * Town.UNKNOWN);
        PostHouse y = new PostHouse();
        Check.due("58: without customers", y.balance(3), 0);
        Check.due("58: without customers", y.balance(4), Town.UNKNOWN);
    }

    private static void promise59Entry() {
        PostHouse x = Town.built(70);
        Check.due("59: booking -1", x.entry(-1, 0), Town.NONE);
        Check.due("59: booking 0", entry(x, 0), "1 4 70 -1");
        Check.due("59: booking 1 of one", entry(x, 1), "-1 -1 -1 -1");
        Check.due("59: what -1", x.entry(0, -1), Town.OUTSIDE);
        Check.due("59: what 4", x.entry(0, 4), Town.OUTSIDE);
        Check.due("59: what 4 of none such", x.entry(1, 4), Town.OUTSIDE);
        Check.due("59: far away", x.entry(Integer.MAX_VALUE, 3) + x.entry(Integer.MIN_VALUE, 0), -2);
        Check.due("59: without bookings", new PostHouse().entry(0, 0), Town.NONE);
    }

    private static void text(String text, int due) {
        Check.due("60: tariff of " + text, Town.tariff(new PostHouse(), text), due);
    }

    private static void fault(String text, int at) {
        text(text, -1000 - at);
    }

    private static void promise60Rows() {
        fault("", 0);
        fault(";", 0);
        text("V1=5;", 1);
        text("K0,1=0;", 1);
        text("K0,1=0;V1=5;", 2);
        fault("V1=5;;", 5);
        fault("V1=5; ", 5);
        fault(" V1=5;", 0);
        fault("P1,A;", 0);
        for (String begins : new String[] {"=5;", "#=5;", "#;", ",5=5;", "#,5=5;", "1=5;"}) {
            fault(begins, 0);
            fault("V1=5;" + begins, 5);
        }
        for (char letter : "kvJLUW".toCharArray()) fault("V1=5;" + letter + "2=5;", 5);
    }

    private static final String[] SHAPES = {"K2,29999=9876;", "V4=1234;"};

    private static void promise60TextsEnd() {
        for (String row : SHAPES) {
            text("V1=5;" + row, 2);
            for (int k = 1; k < row.length(); k++) fault("V1=5;" + row.substring(0, k), 5 + k);
        }
    }

    private static void promise60BytesThatCannotStand() {
        for (String row : SHAPES) {
            for (int k = 0; k < row.length(); k++) {
                for (char bad : new char[] {'#', 'A', ' ', '/', ':', 0, 255}) fault("V1=5;" + row.substring(0, k) + bad + row.substring(k + 1), 5 + k);
            }
        }
        fault("K1=5;", 2);
        fault("V1,5=5;", 2);
        fault("K1,5,5;", 4);
        fault("K,5=5;", 1);
        fault("K1,=5;", 3);
        fault("K1,5=;", 5);
        fault("V=5;", 1);
        fault("K-1,5=5;", 1);
        text("K000001,000005=000005;", 1);
        fault("K0000001,5=5;", 7);
        fault("K1,0000005=5;", 9);
        fault("K1,5=0000005;", 11);
        text("V000001=000005;", 1);
        fault("V0000001=5;", 7);
        // The byte that cannot stand before what is not as said; of entries the first one that has a fault.
        fault("K9,9=9", 6);
        fault("K9,9=9;?", 0);
        fault("K1,9=9;?;K9,9=9;", 7);
        fault("V3=5;V1=5", 0);
    }

    private static void promise60RowsForKinds() {
        for (int kind = 0; kind <= 3; kind++) text("K" + kind + ",5=5;", 1);
        fault("K4,5=5;", 0);
        fault("K999999,5=5;", 0);
        fault("K0,0=5;", 0);
        text("K0,1=5;", 1);
        text("K0,30000=5;", 1);
        fault("K0,30001=5;", 0);
        text("K0,5=9999;", 1);
        fault("K0,5=10000;", 0);
        text("K0,5=0;", 1);
        fault("K0,5=1;K0,5=2;", 7);
        fault("K0,5=1;K0,4=2;", 7);
        text("K0,5=1;K0,6=0;", 2);
        text("K0,5=1;K1,5=1;K2,4=1;K3,1=1;", 4);
        fault("K0,5=1;K1,9=1;K0,5=1;", 14);
        text("K0,5=1;K1,9=1;K0,6=1;K1,10=1;", 4);
        fault("K0,5=1;K0,9=1;K0,7=1;", 14);
        text("K0,29999=1;K0,30000=1;", 2);
    }

    private static void promise60RowsForServices() {
        for (int service : new int[] {1, 2, 4}) text("V" + service + "=5;", 1);
        for (int service : new int[] {0, 3, 5, 6, 7, 8}) fault("V" + service + "=5;", 0);
        text("V1=0;", 1);
        text("V1=9999;", 1);
        fault("V1=10000;", 0);
        text("V1=1;V2=1;V4=1;", 3);
        fault("V1=1;V1=1;", 5);
        fault("V1=1;V2=1;V01=2;", 10);
        fault("V1=1;K1,1=1;V4=2;V2=3;V4=2;", 22);
        text("V1=5;K0,1=5;V4=5;K1,1=5;", 4);
    }

    private static void promise60FortyRows() {
        StringBuilder b = new StringBuilder();
        for (int k = 0; k < 41; k++) b.append('K').append(k % 4).append(',').append(100 + k).append("=5;");
        text(b.substring(0, 40 * 9), 40);
        fault(b.toString(), 40 * 9);
        text(b.substring(0, 39 * 9) + "V1=1;", 40);
        fault(b.substring(0, 40 * 9) + "V1=1;", 40 * 9);
        fault(b.substring(0, 39 * 9) + "V1=1;V2=1;", 39 * 9 + 5);
        text("V1=1;V2=1;V4=1;" + b.substring(0, 37 * 9), 40);
        fault("V1=1;V2=1;V4=1;" + b.substring(0, 38 * 9), 15 + 37 * 9);
        PostHouse x = Town.built(0);
        Town.tariff(x, b.substring(0, 40 * 9));
        x.item(3, 139, 0, 4, 1, 0);
        Check.due("61: by the fortieth row", x.price(0), 5);
        Check.due("60: forty rows in the place of forty", Town.tariff(x, b.substring(0, 40 * 9).replace("=5", "=6")), 40);
        Check.due("61: by the fortieth row", x.price(0), 6);
    }

    private static void promise60TakesThePlace() {
        PostHouse x = Town.built(0);
        x.item(0, 40, 1, 4, 1, 0);
        Check.due("61: no tariff", x.price(0), Town.NONE);
        Town.tariff(x, "K0,40=10;V1=5;");
        Check.due("61: a tariff", x.price(0), 15);
        for (String fault : new String[] {"", "K0,50=7;V1=2", "K0,50=7;V1=2;V1=2;", "?"}) Town.tariff(x, fault);
        Check.due("60: nothing of a faulty one counts", x.price(0), 15);
        Town.tariff(x, "K0,50=7;");
        Check.due("60: another one takes its place", x.price(0), 7);
        Town.tariff(x, "K1,50=7;V1=2;");
        Check.due("60: without rows of this kind", x.price(0), Town.NONE);
        Town.tariff(x, "K0,30=1;K0,40=2;K0,50=3;");
        Check.due("60: the rows of the last one alone", x.price(0), 2);
        new Refusals("60", () -> {
            PostHouse y = Town.built(0);
            Town.tariff(y, "K0,40=10;V1=5;");
            y.item(0, 40, 1, 4, 1, 0);
            return y;
        })
            .due(-1000, "an empty tape", y -> y.tariff())
            .due(-1016, "a fault behind rows", y -> Town.tariff(y, "K0,40=11;V1=5;V2"))
            .due(-1014, "a row that is not as said", y -> Town.tariff(y, "K0,40=11;V1=5;V1=5;"))
            .changedNothing();
    }

    /** Forty rows with all the digits that they may have: 40 times 22 bytes. */
    private static void promise60LongText() {
        StringBuilder b = new StringBuilder();
        for (int k = 0; k < 40; k++) b.append("K000001,0000").append(10 + k).append("=000001;");
        text(b.toString(), 40);
        fault(b.toString() + "K000001,000060=000001;", 880);
    }

    private static int price(PostHouse x, int kind, int weight, int services) {
        return x.price(x.item(kind, weight, services, 4, 1, (services & 2) != 0 ? 5 : 0));
    }

    private static void promise61Price() {
        PostHouse x = Town.built(0);
        Check.due("61: item -1", x.price(-1), Town.UNKNOWN);
        Check.due("61: item 0 of none", x.price(0), Town.UNKNOWN);
        Town.tariff(x, "K0,50=80;K1,50=7;K0,500=150;K0,501=3;K2,30000=9999;");
        int[][] due = {{0, 1, 80}, {0, 50, 80}, {0, 51, 150}, {0, 500, 150}, {0, 501, 3}, {0, 502, Town.NONE}, {1, 50, 7}, {1, 51, Town.NONE}, {2, 30000, 9999}, {3, 1, Town.NONE}};
        for (int[] d : due) Check.due("61: kind " + d[0] + ", weight " + d[1], price(x, d[0], d[1], 0), d[2]);
        Check.due("61: item 10 of ten", x.price(10), Town.UNKNOWN);
        Town.tariff(x, "K0,50=0;");
        Check.due("61: a price of 0", price(x, 0, 50, 0), 0);
    }

    private static void promise61Services() {
        PostHouse x = Town.built(0);
        Town.tariff(x, "V4=400;K0,40=1;V1=10;");
        int[] due = {1, 11, 1, 11, 401, 411, 401, 411};
        for (int services = 0; services < 8; services++) {
            Check.due("61: services " + services, price(x, 0, 40, services), due[services]);
            Check.due("61: services " + services + " without a row for its weight", price(x, 0, 41, services), Town.NONE);
        }
        Town.tariff(x, "V1=9999;V2=9999;V4=9999;K3,30000=9999;");
        Check.due("61: the most", price(x, 3, 30000, 7), 39996);
    }

    private static PostHouse priced(int cents) {
        PostHouse x = Town.built(cents);
        Town.tariff(x, "K0,40=30;K1,40=0;");
        x.item(0, 40, 0, 4, 7, 0);
        x.item(2, 40, 0, 4, 7, 0);
        return x;
    }

    private static void promise62Refusals() {
        new Refusals("62", () -> {
            PostHouse x = priced(59);
            x.item(0, 40, 0, 4, 7, 0);
            x.frank(2);
            return x;
        })
            .due(Town.UNKNOWN, "item -1", x -> x.frank(-1))
            .due(Town.UNKNOWN, "item 3 of three", x -> x.frank(3))
            .due(Town.STATE, "it has no price", x -> x.frank(1))
            .due(Town.STATE, "it is franked, STATE before POOR", x -> x.frank(2))
            .due(Town.POOR, "29 are left", x -> x.frank(0))
            .changedNothing();
    }

    private static void promise62States() {
        States.only("62: frank", 0, (x, item) -> x.frank(item), States.TOLD, States.IN);
        PostHouse x = priced(100);
        Town.posted(x, 0, 0, 7, 0);
        Town.bringOut(x, 2);
        x.refuse(2);
        Check.due("62: IN again, GOING BACK", x.frank(2), 30);
    }

    private static void promise62Poor() {
        for (int cents : new int[] {1, 29, 30, 31}) {
            PostHouse x = priced(cents);
            Check.due("62: of " + cents, x.frank(0), cents < 30 ? Town.POOR : 30);
            Check.due("58: what is left", x.balance(4), cents < 30 ? cents : cents - 30);
            Check.due("58: POST", x.balance(0), cents < 30 ? 0 : 30);
            Check.due("27: franked", x.about(0, 11), cents < 30 ? Town.NONE : 30);
            if (cents < 30) continue;
            Check.due("59: its booking", entry(x, 1), "4 0 30 0");
            Check.due("62: it is franked", x.frank(0), Town.STATE);
        }
        PostHouse x = priced(100);
        x.account(0);
        int item = x.item(0, 40, 0, 5, 7, 0);
        Check.due("62: its own account is POOR", x.frank(item), Town.POOR);
    }

    private static void promise62Nothing() {
        PostHouse x = Town.built(0);
        Town.tariff(x, "K1,40=0;");
        x.item(1, 40, 0, 4, 7, 0);
        Check.due("62: a price of 0 of an account of 0", x.frank(0), 0);
        Check.due("27: franked with 0", x.about(0, 11), 0);
        Check.due("10: bookings of 0 are none", x.count(11), 0);
        Check.due("62: it is franked", x.frank(0), Town.STATE);
        Check.due("27: nothing is due", x.about(0, 16), 0);
    }

    private static void promise63Refusals() {
        new Refusals("63", () -> Town.built(50))
            .due(Town.UNKNOWN, "account -1", x -> x.order(-1, 1, 1))
            .due(Town.UNKNOWN, "POST", x -> x.order(0, 1, 1))
            .due(Town.UNKNOWN, "ORDERS", x -> x.order(3, 1, 1))
            .due(Town.UNKNOWN, "account 5 of one", x -> x.order(5, 1, 1))
            .due(Town.UNKNOWN, "UNKNOWN before OUTSIDE", x -> x.order(5, 0, 0))
            .due(Town.OUTSIDE, "person 0", x -> x.order(4, 0, 1))
            .due(Town.OUTSIDE, "person 100", x -> x.order(4, 100, 1))
            .due(Town.OUTSIDE, "0 cents", x -> x.order(4, 1, 0))
            .due(Town.OUTSIDE, "-1 cents", x -> x.order(4, 1, -1))
            .due(Town.OUTSIDE, "100001 cents, OUTSIDE before POOR", x -> x.order(4, 1, 100001))
            .due(Town.POOR, "51 cents of 50", x -> x.order(4, 1, 51))
            .due(Town.POOR, "100000 cents of 50", x -> x.order(4, 1, 100000))
            .changedNothing();
    }

    private static void promise63Poor() {
        PostHouse x = Town.built(50);
        Check.due("63: one cent", x.order(4, 1, 1), 0);
        Check.due("63: all that is left", x.order(4, 99, 49), 1);
        Check.due("63: nothing is left", x.order(4, 1, 1), Town.POOR);
        Check.due("58: balances", x.balance(4) * 100 + x.balance(3), 50);
        Check.due("59: bookings", entry(x, 1) + ", " + entry(x, 2), "4 3 1 -1, 4 3 49 -1");
        PostHouse y = Town.built(100000);
        Check.due("63: the most", y.order(4, 1, 100000), 0);
    }

    private static PostHouse orders(int many) {
        PostHouse x = Town.built(100);
        for (int k = 0; k < many; k++) Check.due("63: its number", x.order(4, 5, 1), k);
        return x;
    }

    private static void promise63Room() {
        PostHouse x = orders(60);
        Check.due("63: the 61st", x.order(4, 5, 1), Town.ROOM);
        Check.due("63: POOR before ROOM", x.order(4, 5, 41), Town.POOR);
        Check.due("63: OUTSIDE before ROOM", x.order(4, 0, 1), Town.OUTSIDE);
        Check.due("63: UNKNOWN before ROOM", x.order(5, 5, 1), Town.UNKNOWN);
        Check.due("63: what was refused changed nothing", x.count(12) * 1000 + x.count(11) * 10 + x.balance(4) - x.balance(3), 60000 + 610 + 40 - 60);
        Check.due("64: the last one", x.payOut(59, 5, 1), 1);
        Check.due("64: no more", x.payOut(60, 5, 1), Town.UNKNOWN);
        Check.due("63: what is paid is one still", x.order(4, 5, 1), Town.ROOM);
    }

    private static PostHouse ordered() {
        PostHouse x = Town.built(500);
        x.order(4, 8, 120);
        x.order(4, 99, 7);
        x.payOut(1, 99, 1);
        return x;
    }

    private static void promise64Refusals() {
        new Refusals("64", Promise56To66Test::ordered)
            .due(Town.UNKNOWN, "order -1", x -> x.payOut(-1, 8, 1))
            .due(Town.UNKNOWN, "order 2 of two", x -> x.payOut(2, 8, 1))
            .due(Town.UNKNOWN, "UNKNOWN before OUTSIDE", x -> x.payOut(2, 0, -1))
            .due(Town.OUTSIDE, "person 0", x -> x.payOut(0, 0, 1))
            .due(Town.OUTSIDE, "person 100", x -> x.payOut(0, 100, 1))
            .due(Town.OUTSIDE, "proof -1", x -> x.payOut(0, 8, -1))
            .due(Town.OUTSIDE, "proof 10000", x -> x.payOut(0, 8, 10000))
            .due(Town.OUTSIDE, "OUTSIDE before STATE", x -> x.payOut(1, 100, 1))
            .due(Town.STATE, "it is paid", x -> x.payOut(1, 99, 1))
            .due(Town.STATE, "STATE before NOT_HIM", x -> x.payOut(1, 8, 0))
            .due(Town.NOT_HIM, "another person", x -> x.payOut(0, 9, 1))
            .due(Town.NOT_HIM, "NOT_HIM before NO_PROOF", x -> x.payOut(0, 9, 0))
            .due(Town.NO_PROOF, "proof 0", x -> x.payOut(0, 8, 0))
            .changedNothing();
    }

    private static void promise64Order() {
        for (int proof : new int[] {1, 9999}) {
            PostHouse x = ordered();
            Check.due("64: its cents, proof " + proof, x.payOut(0, 8, proof), 120);
            Check.due("59: from ORDERS to CASH", entry(x, 4), "3 1 120 -1");
            Check.due("58: balances", x.balance(1) + " " + x.balance(3) + " " + x.balance(4), "-373 0 373");
        }
        PostHouse x = Town.built(9);
        x.order(4, 1, 9);
        Check.due("64: person 1", x.payOut(0, 1, 1), 9);
    }

    private static void promise64PaidOnce() {
        PostHouse x = ordered();
        x.payOut(0, 8, 1);
        int bookings = x.count(11);
        Check.due("64: it is paid", x.payOut(0, 8, 1), Town.STATE);
        Town.goOn(x, 31);
        Check.due("65: what is paid is not given back", x.orderAt(0, 0), 1);
        Check.due("10: nothing was booked", x.count(11), bookings);
    }

    private static String order(PostHouse x, int o) {
        return x.orderAt(o, 0) + " " + x.orderAt(o, 1) + " " + x.orderAt(o, 2) + " " + x.orderAt(o, 3) + " " + x.orderAt(o, 4);
    }

    private static void promise65OrderAt() {
        new Refusals("65", Promise56To66Test::ordered)
            .due(Town.UNKNOWN, "order -1", x -> x.orderAt(-1, 0))
            .due(Town.UNKNOWN, "order 2 of two", x -> x.orderAt(2, 0))
            .due(Town.UNKNOWN, "UNKNOWN before OUTSIDE", x -> x.orderAt(2, 5))
            .due(Town.OUTSIDE, "what -1", x -> x.orderAt(0, -1))
            .due(Town.OUTSIDE, "what 5", x -> x.orderAt(0, 5))
            .changedNothing();
        PostHouse x = ordered();
        Check.due("65: open", order(x, 0), "0 4 8 120 30");
        Check.due("65: paid", order(x, 1), "1 4 99 7 30");
    }

    private static void promise65ThirtyDays() {
        for (int minute : new int[] {0, 1, 1439}) {
            PostHouse x = Town.built(500);
            Town.goOn(x, 2);
            if (minute > 0) x.tick(minute);
            x.order(4, 8, 120);
            Check.due("65: on day 2", order(x, 0), "0 4 8 120 32");
            Town.goOn(x, 29);
            if (minute < 1439) x.tick(1439 - minute);
            Check.due("75: the last minute of day 31", x.now(), 32 * 1440 - 1);
            Check.due("65: open still", x.orderAt(0, 0), 0);
            x.tick(1);
            Check.due("65: given back as day 32 begins", order(x, 0), "2 4 8 120 32");
            Check.due("59: from ORDERS to its account", entry(x, 2), "3 4 120 -1");
            Check.due("58: balances", x.balance(4) * 10 + x.balance(3), 5000);
            Check.due("64: it is given back", x.payOut(0, 8, 1), Town.STATE);
        }
        PostHouse x = Town.built(500);
        x.order(4, 8, 120);
        Town.goOn(x, 29);
        x.tick(1439);
        Check.due("64: paid in the last minute", x.payOut(0, 8, 1), 120);
    }

    private static void promise65GivenBackByNumbers() {
        PostHouse x = Town.built(500);
        x.account(0);
        x.deposit(5, 50);
        x.order(5, 1, 11);
        x.order(4, 1, 22);
        x.order(4, 1, 33);
        x.order(5, 1, 39);
        x.payOut(1, 1, 1);
        x.tick(1440);
        x.order(4, 1, 44);
        Town.goOn(x, 29);
        Check.due("10: bookings on day 30", x.count(11), 2 + 4 + 1 + 1 + 3);
        Check.due("59: by numbers", entry(x, 8) + ", " + entry(x, 9) + ", " + entry(x, 10), "3 5 11 -1, 3 4 33 -1, 3 5 39 -1");
        Check.due("65: the last one is open", x.orderAt(4, 0), 0);
        Town.goOn(x, 1);
        Check.due("65: a day later it is not", x.orderAt(4, 0), 2);
        Check.due("58: all is as it was, but for what was paid", x.balance(4) * 100 + x.balance(5), 47850);
        Check.due("76: audit", x.audit(), 0);
    }

    private static PostHouse lost(int services) {
        PostHouse x = Town.built(0);
        Town.posted(x, 0, services, 7, (services & 2) != 0 ? 9 : 0);
        x.lose(0);
        return x;
    }

    private static void promise66Refusals() {
        new Refusals("66", () -> {
            PostHouse x = lost(1);
            Town.posted(x, 0, 1, 7, 0);
            Town.posted(x, 0, 6, 7, 9);
            x.lose(2);
            Town.posted(x, 0, 5, 7, 0);
            x.lose(3);
            x.claim(3, 9);
            return x;
        })
            .due(Town.UNKNOWN, "item -1", x -> x.claim(-1, 1))
            .due(Town.UNKNOWN, "item 4 of four", x -> x.claim(4, 1))
            .due(Town.UNKNOWN, "UNKNOWN before OUTSIDE", x -> x.claim(4, 0))
            .due(Town.OUTSIDE, "0 cents", x -> x.claim(0, 0))
            .due(Town.OUTSIDE, "-1 cents", x -> x.claim(0, -1))
            .due(Town.OUTSIDE, "100001 cents", x -> x.claim(0, 100001))
            .due(Town.OUTSIDE, "OUTSIDE before STATE", x -> x.claim(1, 100001))
            .due(Town.STATE, "it is not LOST", x -> x.claim(1, 1))
            .due(Town.STATE, "it is not registered", x -> x.claim(2, 1))
            .due(Town.STATE, "it was claimed", x -> x.claim(3, 1))
            .changedNothing();
    }

    private static void promise66States() {
        States.only("66: claim", 1, (x, item) -> x.claim(item, 5), States.LOST);
        for (int services = 0; services < 8; services++) {
            Check.due("66: services " + services, lost(services).claim(0, 5), (services & 1) != 0 ? 5 : Town.STATE);
        }
    }

    /** Whether an item was claimed has nothing to do with when it came IN, or with what clerks told. */
    private static void promise66Others() {
        PostHouse x = Town.built(0);
        for (int k = 0; k < 4; k++) Town.posted(x, 0, 1, 7, 0);
        for (int k = 0; k < 4; k++) x.lose(k);
        for (int k = 0; k < 4; k++) Check.due("66: item " + k, x.claim(k, 5), 5);
        PostHouse y = Town.built(0);
        Town.lay(y, new byte[8]);
        y.sheet(8);
        for (int k = 0; k < 2; k++) {
            y.item(0, 1, 1, 4, 1, 0);
            y.take(k);
            y.lose(k);
        }
        Check.due("25: a clerk told", y.clerk(0, 0, 3), 0);
        Check.due("66: that is no claim", y.claim(0, 5), 5);
        Check.due("66: a claim", y.claim(1, 5), 5);
        Check.due("25: that is no clerk", y.clerk(1, 0, 3) + y.clerk(1, 1, 3), 1);
    }

    private static void promise66Cents() {
        for (int cents : new int[] {1, 4999, 5000, 5001, 100000}) {
            PostHouse x = lost(1);
            int paid = Math.min(5000, cents);
            Check.due("66: a claim of " + cents, x.claim(0, cents), paid);
            Check.due("59: from CLAIMS to its account", entry(x, 0), "2 4 " + paid + " 0");
            Check.due("58: balances", x.balance(2) + x.balance(4) * 2, paid);
            Check.due("66: it was claimed", x.claim(0, 1), Town.STATE);
        }
    }
}
