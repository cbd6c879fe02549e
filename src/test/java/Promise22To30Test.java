import java.util.Random;

/** Promises 22 to 30, edge by edge: items, addresses, clerks, goals, bars. */
public final class Promise22To30Test {
    public static void main(String[] args) {
        promise22Refusals();
        promise22Taken();
        promise22CentsAndServices();
        promise22Room();
        promise23Refusals();
        promise23States();
        promise24Refusals();
        promise24States();
        promise24Readings();
        promise25Refusals();
        promise25Edges();
        promise25AllThree();
        promise25WhenItIsSettled();
        promise25States();
        promise26Refusals();
        promise26States();
        promise26Place();
        promise27Refusals();
        promise27AtFirst();
        promise27FromStateToState();
        promise27Due();
        promise27Goal();
        promise27HomeOfTheAccount();
        promise28Refusals();
        promise28Numbers();
        promise28Address();
        promise28Sums();
        promise28InAnyOrder();
        promise29Lengths();
        promise29Modulo16();
        promise29NumbersOfItems();
        promise29Distances();
        promise30Mended();
        Check.finish();
    }

    private static PostHouse town() {
        PostHouse x = Town.built(0);
        x.item(0, 1, 0, 4, 1, 0);
        return x;
    }

    private static void promise22Refusals() {
        new Refusals("22", Promise22To30Test::town)
            .due(Town.UNKNOWN, "account -1", x -> x.item(0, 1, 0, -1, 1, 0))
            .due(Town.UNKNOWN, "POST", x -> x.item(0, 1, 0, 0, 1, 0))
            .due(Town.UNKNOWN, "ORDERS", x -> x.item(0, 1, 0, 3, 1, 0))
            .due(Town.UNKNOWN, "account 5 of one", x -> x.item(0, 1, 0, 5, 1, 0))
            .due(Town.UNKNOWN, "UNKNOWN before OUTSIDE", x -> x.item(4, 0, 8, 5, 0, 7))
            .due(Town.OUTSIDE, "kind -1", x -> x.item(-1, 1, 0, 4, 1, 0))
            .due(Town.OUTSIDE, "kind 4", x -> x.item(4, 1, 0, 4, 1, 0))
            .due(Town.OUTSIDE, "weight 0", x -> x.item(0, 0, 0, 4, 1, 0))
            .due(Town.OUTSIDE, "weight 30001", x -> x.item(0, 30001, 0, 4, 1, 0))
            .due(Town.OUTSIDE, "services -1", x -> x.item(0, 1, -1, 4, 1, 0))
            .due(Town.OUTSIDE, "services 8", x -> x.item(0, 1, 8, 4, 1, 0))
            .due(Town.OUTSIDE, "person 0", x -> x.item(0, 1, 0, 4, 0, 0))
            .due(Town.OUTSIDE, "person 100", x -> x.item(0, 1, 0, 4, 100, 0))
            .due(Town.OUTSIDE, "services -2 with cents", x -> x.item(0, 1, -2, 4, 1, 5))
            .due(Town.OUTSIDE, "services -1 with cents", x -> x.item(0, 1, -1, 4, 1, 5))
            .due(Town.OUTSIDE, "services 10 with cents", x -> x.item(0, 1, 10, 4, 1, 5))
            .changedNothing();
    }

    private static void promise22Taken() {
        PostHouse x = Town.built(0);
        int[][] items = {{0, 1, 0, 1, 0}, {3, 1, 0, 1, 0}, {0, 30000, 0, 1, 0}, {0, 1, 7, 1, 1}, {0, 1, 0, 99, 0}, {1, 2, 5, 50, 0}};
        for (int k = 0; k < items.length; k++) {
            int[] i = items[k];
            Check.due("22: its number", x.item(i[0], i[1], i[2], 4, i[3], i[4]), k);
            int[] told = {0, i[0], i[1], i[2], 4, i[3], i[4]};
            for (int what = 0; what <= 6; what++) Check.due("27: item " + k + ", " + what, x.about(k, what), told[what]);
        }
        for (int k = 5; k < 34; k++) x.account(0);
        Check.due("22: the last account", x.item(0, 1, 0, 33, 1, 0), items.length);
        Check.due("22: none behind it", x.item(0, 1, 0, 34, 1, 0), Town.UNKNOWN);
    }

    private static void promise22CentsAndServices() {
        for (int services = 0; services <= 7; services++) {
            boolean onDelivery = services == 2 || services == 3 || services == 6 || services == 7;
            int[] cents = {-1, 0, 1, 100000, 100001};
            for (int c : cents) {
                boolean taken = onDelivery ? c >= 1 && c <= 100000 : c == 0;
                Check.due("22: services " + services + " with " + c, Town.built(0).item(0, 1, services, 4, 1, c), taken ? 0 : Town.OUTSIDE);
            }
        }
    }

    private static void promise22Room() {
        PostHouse x = Town.built(0);
        for (int k = 0; k < 300; k++) Check.due("22: its number", x.item(0, 1, 0, 4, 1, 0), k);
        Check.due("22: 300 items", x.item(0, 1, 0, 4, 1, 0), Town.ROOM);
        Check.due("22: OUTSIDE before ROOM", x.item(0, 1, 0, 4, 1, 1), Town.OUTSIDE);
        Check.due("22: UNKNOWN before ROOM", x.item(0, 1, 0, 5, 1, 0), Town.UNKNOWN);
        x.lose(7);
        Check.due("22: what is LOST is one still", x.item(0, 1, 0, 4, 1, 0), Town.ROOM);
        Check.due("10: 300", x.count(5), 300);
        Check.due("27: the last one", x.about(299, 0) + x.about(300, 0), Town.UNKNOWN);
        Check.due("26: the last one", x.post(299, 1), 1);
        Check.due("71: its trace", x.trace(299, 1, 0) * 10 + x.trace(299, 1, 1), 11);
        Check.due("28: its bars", x.bar(299, 0) * 256 + x.bar(299, 1) * 16 + x.bar(299, 2), 299);
    }

    private static void promise23Refusals() {
        new Refusals("23", Promise22To30Test::town)
            .due(Town.UNKNOWN, "item -1", x -> x.address(-1, 0))
            .due(Town.UNKNOWN, "item 1 of one", x -> x.address(1, 0))
            .due(Town.UNKNOWN, "point -1", x -> x.address(0, -1))
            .due(Town.UNKNOWN, "point 5 of five", x -> x.address(0, 5))
            .changedNothing();
        PostHouse x = town();
        Check.due("23: the last point", x.address(0, 4) * 10 + x.about(0, 7), 14);
        Check.due("23: it is settled", x.address(0, 4), Town.STATE);
        Check.due("23: UNKNOWN before STATE", x.address(0, 5), Town.UNKNOWN);
    }

    private static void promise23States() {
        States.only("23: address", 0, (x, item) -> x.address(item, 1), States.TOLD);
        PostHouse x = Town.built(0);
        for (int k = 0; k < 4; k++) x.item(0, 1, 0, 4, 1, 0);
        x.post(1, 0);
        Check.due("23: IN", x.address(1, 1), 1);
        x.lose(2);
        Check.due("23: LOST", x.address(2, 1), Town.STATE);
        x.post(3, 0);
        x.lose(3);
        Check.due("23: LOST", x.address(3, 1), Town.STATE);
        Check.due("27: no address", x.about(2, 7) + x.about(3, 7), -2);
    }

    private static void show(PostHouse x, String... lines) {
        Town.lay(x, Sheets.draw(40, 1, 2, lines));
        x.sheet(40);
    }

    private static PostHouse shown() {
        PostHouse x = town();
        show(x, "LIND 12", "100");
        return x;
    }

    private static void promise24Refusals() {
        new Refusals("24", Promise22To30Test::town)
            .due(Town.STATE, "there was no sheet", x -> x.take(0))
            .due(Town.UNKNOWN, "item -1", x -> x.take(-1))
            .due(Town.UNKNOWN, "UNKNOWN before STATE", x -> x.take(1))
            .changedNothing();
        PostHouse x = shown();
        Check.due("24: it told a point", x.take(0) * 10 + x.about(0, 7), 11);
        Check.due("24: settled", x.take(0), Town.STATE);
        PostHouse y = Town.built(0);
        y.item(0, 1, 0, 4, 1, 0);
        y.sync();
        Town.lay(y, new byte[8]);
        y.sheet(8);
        Disk.restart(y);
        Check.due("24: there was no sheet in what the log has", y.take(0), Town.STATE);
    }

    private static void promise24States() {
        PostHouse x = shown();
        for (int k = 1; k < 5; k++) x.item(0, 1, 0, 4, 1, 0);
        x.post(1, 0);
        Check.due("24: TOLD", x.take(0), 1);
        Check.due("24: IN", x.take(1), 1);
        x.lose(2);
        Check.due("24: LOST", x.take(2), Town.STATE);
        x.address(3, 3);
        Check.due("24: settled otherwise", x.take(3), Town.STATE);
        Check.due("27: by that", x.about(3, 7), 3);
        for (int state = 0; state < States.MANY; state++) {
            PostHouse h = States.house(0);
            Town.lay(h, new byte[8]);
            h.sheet(8);
            Check.due("24: take in state " + state, h.take(state), state == States.TOLD ? 0 : Town.STATE);
        }
    }

    private static void promise24Readings() {
        PostHouse x = shown();
        for (int k = 1; k < 5; k++) x.item(0, 1, 0, 4, 1, 0);
        Check.due("24: a point", x.take(1) * 10 + x.about(1, 13), 10);
        show(x, "LIND 13", "100");
        Check.due("24: none", x.take(0) * 10 + x.about(0, 13), 1);
        Check.due("27: no address", x.about(0, 7), Town.NONE);
        Check.due("24: doubtful", x.take(0), Town.STATE);
        show(x, "KAI 4", "7");
        Check.due("24: doubtful, though there is a point now", x.take(0), Town.STATE);
        x.clerk(0, 0, -1);
        x.clerk(0, 1, -1);
        Check.due("27: unreadable", x.about(0, 13), 2);
        Check.due("24: unreadable", x.take(0), Town.STATE);
        Check.due("24: one sheet for two", x.take(2) + x.take(3), 2);
        Check.due("27: of the latest one", x.about(2, 7) * 10 + x.about(3, 7), 33);
        Check.due("23: doubtful no more", x.address(0, 0) * 10 + x.about(0, 13), 10);
    }

    /** A house with doubtful items. */
    private static PostHouse doubtful(int items) {
        PostHouse x = Town.built(0);
        Town.lay(x, new byte[8]);
        x.sheet(8);
        for (int k = 0; k < items; k++) {
            x.item(0, 1, 0, 4, 1, 0);
            x.take(k);
        }
        return x;
    }

    private static void promise25Refusals() {
        new Refusals("25", () -> {
            PostHouse x = doubtful(2);
            x.clerk(0, 3, 2);
            x.item(0, 1, 0, 4, 1, 0);
            return x;
        })
            .due(Town.UNKNOWN, "item -1", x -> x.clerk(-1, 0, 0))
            .due(Town.UNKNOWN, "item 3 of three", x -> x.clerk(3, 0, 0))
            .due(Town.UNKNOWN, "point -2", x -> x.clerk(0, 0, -2))
            .due(Town.UNKNOWN, "point 5 of five", x -> x.clerk(0, 0, 5))
            .due(Town.UNKNOWN, "UNKNOWN before OUTSIDE", x -> x.clerk(0, 10, 5))
            .due(Town.UNKNOWN, "UNKNOWN before STATE", x -> x.clerk(2, 0, 5))
            .due(Town.OUTSIDE, "clerk -1", x -> x.clerk(0, -1, 0))
            .due(Town.OUTSIDE, "clerk 10", x -> x.clerk(0, 10, 0))
            .due(Town.OUTSIDE, "OUTSIDE before STATE", x -> x.clerk(2, 10, 0))
            .due(Town.STATE, "this clerk told", x -> x.clerk(0, 3, 1))
            .due(Town.STATE, "this clerk told the same", x -> x.clerk(0, 3, 2))
            .due(Town.STATE, "it is not doubtful", x -> x.clerk(2, 0, 0))
            .changedNothing();
    }

    private static void promise25Edges() {
        PostHouse x = doubtful(4);
        Check.due("25: clerk 0, point 0", x.clerk(0, 0, 0), 0);
        Check.due("25: clerk 9, the same", x.clerk(0, 9, 0), 1);
        Check.due("25: the last point", x.clerk(1, 9, 4), 0);
        Check.due("25: clerk 0, the same", x.clerk(1, 0, 4), 1);
        Check.due("27: settled", x.about(0, 7) * 100 + x.about(1, 7) * 10 + x.about(1, 13), 40);
        Check.due("25: clerks for another item", x.clerk(2, 0, 3) + x.clerk(2, 9, 3), 1);
        Check.due("25: ten clerks are ten", x.clerk(3, 8, 3) + x.clerk(3, 7, 2), 0);
        Check.due("25: each once", x.clerk(3, 8, 1), Town.STATE);
        Check.due("25: a third one", x.clerk(3, 1, 2), 1);
    }

    private static void promise25AllThree() {
        int[] told = {Town.NONE, 0, 1, 4};
        for (int a : told) {
            PostHouse x = doubtful(16);
            int item = 0;
            for (int b : told) {
                for (int c : told) {
                    String name = "25: " + a + ", " + b + ", " + c;
                    Check.due(name + ": the first", x.clerk(item, 1, a), 0);
                    boolean two = a == b;
                    Check.due(name + ": the second", x.clerk(item, 2, b), !two ? 0 : a == Town.NONE ? 2 : 1);
                    boolean three = c == a || c == b;
                    Check.due(name + ": the third", x.clerk(item, 3, c), two ? Town.STATE : three && c != Town.NONE ? 1 : 2);
                    int settled = two ? a : three ? c : Town.NONE;
                    Check.due(name + ": its address", x.about(item, 7), settled);
                    Check.due(name + ": unreadable", x.about(item, 13), settled == Town.NONE ? 2 : 0);
                    item++;
                }
            }
        }
    }

    private static void promise25WhenItIsSettled() {
        PostHouse x = doubtful(2);
        x.clerk(0, 0, 1);
        x.address(0, 2);
        Check.due("25: settled otherwise", x.clerk(0, 1, 1), Town.STATE);
        Check.due("27: its address", x.about(0, 7), 2);
        x.clerk(1, 0, 1);
        x.clerk(1, 1, 2);
        x.clerk(1, 2, 3);
        Check.due("25: unreadable", x.clerk(1, 3, 3), Town.STATE);
        Check.due("23: unreadable no more", x.address(1, 3) * 10 + x.about(1, 13), 10);
    }

    private static void promise25States() {
        PostHouse x = doubtful(3);
        x.post(0, 1);
        Check.due("25: IN", x.clerk(0, 0, 3) + x.clerk(0, 1, 3), 1);
        x.lose(1);
        Check.due("25: LOST, but doubtful", x.clerk(1, 0, 3) + x.clerk(1, 1, 3), 1);
        Check.due("27: settled", x.about(1, 7), 3);
        x.sync();
        Check.due("6: all again", Disk.restart(x), 3 + 3 + 3 + 1 + 2 + 1 + 2);
        Check.due("25: doubtful still", x.clerk(2, 5, 0) + x.about(2, 13), 1);
    }

    private static void promise26Refusals() {
        new Refusals("26", Promise22To30Test::town)
            .due(Town.UNKNOWN, "item -1", x -> x.post(-1, 0))
            .due(Town.UNKNOWN, "item 1 of one", x -> x.post(1, 0))
            .due(Town.UNKNOWN, "place -1", x -> x.post(0, -1))
            .due(Town.UNKNOWN, "place 2 of two", x -> x.post(0, 2))
            .changedNothing();
        PostHouse x = town();
        x.post(0, 1);
        Check.due("26: UNKNOWN before STATE", x.post(0, 2), Town.UNKNOWN);
        Check.due("26: IN already", x.post(0, 0), Town.STATE);
        Check.due("27: where it was", x.about(0, 8), 1);
    }

    private static void promise26States() {
        States.only("26: post", 0, (x, item) -> x.post(item, 1), States.TOLD);
    }

    private static void promise26Place() {
        PostHouse x = town();
        Check.due("27: NONE before", x.about(0, 8), Town.NONE);
        Check.due("26: place 0", x.post(0, 0), 1);
        Check.due("27: the place", x.about(0, 8) * 10 + x.about(0, 0), 1);
        Check.due("71: IN there", x.trace(0, 1, 0) * 10 + x.trace(0, 1, 1), 10);
    }

    private static void promise27Refusals() {
        new Refusals("27", Promise22To30Test::town)
            .due(Town.UNKNOWN, "item -1", x -> x.about(-1, 0))
            .due(Town.UNKNOWN, "item 1 of one", x -> x.about(1, 0))
            .due(Town.UNKNOWN, "UNKNOWN before OUTSIDE", x -> x.about(1, 17))
            .due(Town.OUTSIDE, "what -1", x -> x.about(0, -1))
            .due(Town.OUTSIDE, "what 17", x -> x.about(0, 17))
            .due(Town.OUTSIDE, "what 22", x -> x.about(0, 22))
            .due(Town.OUTSIDE, "the greatest what", x -> x.about(0, Integer.MAX_VALUE))
            .changedNothing();
    }

    private static String all(PostHouse x, int item) {
        StringBuilder b = new StringBuilder();
        for (int what = 0; what <= 16; what++) b.append(x.about(item, what)).append(' ');
        return b.toString();
    }

    private static void promise27AtFirst() {
        Check.due("27: when it is told", all(town(), 0), "0 0 1 0 4 1 0 -1 -1 -1 0 -1 -1 0 -1 -1 0 ");
        PostHouse x = Town.built(0);
        x.item(3, 30000, 7, 4, 99, 100000);
        Check.due("27: the most", all(x, 0), "0 3 30000 7 4 99 100000 -1 -1 -1 0 -1 -1 0 -1 -1 100000 ");
    }

    private static void promise27FromStateToState() {
        PostHouse x = States.house(0);
        String[] due = {"0 0 40 0 4 7 0 -1 -1 -1 0 -1 -1 0 -1 -1 130 ", "1 0 40 0 4 7 0 3 0 -1 0 -1 3 0 -1 -1 130 ", "2 0 40 0 4 7 0 3 0 0 0 -1 3 0 -1 -1 130 ",
            "3 0 40 0 4 7 0 2 0 -1 0 -1 2 0 -1 -1 130 ", "4 0 40 0 4 7 0 0 0 -1 0 -1 0 0 -1 -1 130 ", "5 0 40 0 4 7 0 0 0 -1 0 -1 0 0 -1 -1 130 ",
            "6 0 40 0 4 7 0 0 0 -1 0 -1 0 0 7 -1 130 ", "7 0 40 0 5 7 0 0 0 -1 1 -1 0 0 -1 -1 130 ", "8 0 40 0 4 7 0 0 0 -1 0 -1 0 0 -1 -1 130 "};
        for (int item = 0; item < 9; item++) Check.due("27: in state " + item, all(x, item), due[item]);
        Town.tariff(x, "K1,1=1;");
        Check.due("52: into a box", x.put(4, 0), 0);
        Check.due("27: in a locker", all(x, 4), "6 0 40 0 4 7 0 0 0 -1 0 -1 0 0 3 0 0 ");
        x.openBox(0, Town.key(4));
        Check.due("27: and out of it", all(x, 4), "5 0 40 0 4 7 0 0 0 -1 0 -1 0 0 -1 -1 0 ");
        x.lose(2);
        Check.due("27: out of its bag", all(x, 2), "8 0 40 0 4 7 0 3 0 -1 0 -1 3 0 -1 -1 0 ");
        x.refuse(6);
        Check.due("27: HELD till no day, GOING BACK", all(x, 6), "1 0 40 0 4 7 0 0 0 -1 1 -1 3 0 -1 -1 0 ");
    }

    private static void promise27Due() {
        PostHouse x = Town.built(1000);
        x.round(0, 0, 0);
        x.assign(0, 0);
        Town.tariff(x, "K0,40=30;V2=4;K1,40=0;");
        int plain = Town.posted(x, 0, 0, 1, 0), franked = Town.posted(x, 0, 2, 1, 50), unfranked = Town.posted(x, 0, 2, 1, 50);
        int free = Town.posted(x, 1, 0, 1, 0), priceless = Town.posted(x, 2, 2, 1, 60);
        x.frank(franked);
        Check.due("27: its price and 100", x.about(plain, 16), 130);
        Check.due("27: franked: its cents alone", x.about(franked, 16), 50);
        Check.due("27: the franking", x.about(franked, 11), 34);
        Check.due("27: price, 100 and cents", x.about(unfranked, 16), 184);
        Check.due("27: a price of 0 and 100", x.about(free, 16), 100);
        Check.due("27: no price: no 100", x.about(priceless, 16), 60);
        x.frank(free);
        Check.due("27: franked with 0", x.about(free, 16) + x.about(free, 11), 0);
        x.sort(0);
        x.out(0);
        for (int item : new int[] {plain, franked, unfranked, free, priceless}) x.refuse(item);
        Check.due("27: GOING BACK", x.about(plain, 16), 130);
        Check.due("27: GOING BACK: no cents", x.about(franked, 16) + x.about(priceless, 16), 0);
        Check.due("27: GOING BACK: price and 100 alone", x.about(unfranked, 16), 134);
        Town.tariff(x, "K0,39=1;K2,40=9999;");
        Check.due("27: by the tariff now: none", x.about(plain, 16) + x.about(unfranked, 16), 0);
        Check.due("27: by the tariff now: one", x.about(priceless, 16), 10099);
    }

    private static void promise27Goal() {
        PostHouse x = Town.built(0);
        int a = Town.posted(x, 0, 0, 6, 0);
        Check.due("27: its address", x.about(a, 12), 0);
        x.forward(0, 6, 4, 1);
        Check.due("27: forwarded for its person", x.about(a, 12), 4);
        x.hold(4, 0, 1);
        Check.due("27: held for all", x.about(a, 12), Town.HELD);
        x.forward(4, 0, 0, 1);
        Check.due("27: a ring", x.about(a, 12), Town.RING);
        int b = Town.posted(x, 0, 0, 5, 0);
        Check.due("27: another person", x.about(b, 12), 0);
        x.tick(1439);
        Check.due("27: that day", x.about(a, 12), Town.RING);
        x.tick(1);
        Check.due("27: its goal today", x.about(a, 12), 0);
        int c = x.item(0, 1, 0, 4, 6, 0);
        Check.due("27: without an address", x.about(c, 12), Town.NONE);
    }

    private static void promise27HomeOfTheAccount() {
        PostHouse x = Town.built(0);
        x.account(1);
        int a = x.item(0, 40, 0, 5, 6, 0);
        x.address(a, 0);
        x.post(a, 0);
        Town.bringOut(x, a);
        x.refuse(a);
        Check.due("27: the home of its own account", x.about(a, 12), 1);
        x.forward(1, 0, 2, 9);
        x.hold(1, 0, 9);
        Check.due("27: whatever is told about that", x.about(a, 12), 1);
    }

    private static void promise28Refusals() {
        new Refusals("28", Promise22To30Test::town)
            .due(Town.UNKNOWN, "item -1", x -> x.bar(-1, 0))
            .due(Town.UNKNOWN, "item 1 of one", x -> x.bar(1, 0))
            .due(Town.UNKNOWN, "UNKNOWN before OUTSIDE", x -> x.bar(1, 15))
            .due(Town.OUTSIDE, "symbol -1", x -> x.bar(0, -1))
            .due(Town.OUTSIDE, "symbol 15", x -> x.bar(0, 15))
            .changedNothing();
        Check.due("28: symbol 14 is one", town().bar(0, 14) >= 0 ? 1 : 0, 1);
    }

    private static int number(PostHouse x, int item, int from, int symbols) {
        int n = 0;
        for (int k = from; k < from + symbols; k++) n = n * 16 + x.bar(item, k);
        return n;
    }

    private static void promise28Numbers() {
        PostHouse x = Town.built(0);
        int[] weights = {1, 15, 16, 255, 256, 4095, 4096, 4097, 8191, 8192, 28671, 28672, 30000};
        for (int k = 0; k < weights.length; k++) {
            x.item(k % 4, weights[k], k % 2 == 0 ? 5 : 7, 4, 1, k % 2 == 0 ? 0 : 8);
            Check.due("28: weight " + weights[k], number(x, k, 8, 3), weights[k] % 4096);
            Check.due("28: kind and services", x.bar(k, 3) * 10 + x.bar(k, 7), k % 4 * 10 + (k % 2 == 0 ? 5 : 7));
        }
        for (int item = weights.length; item < 258; item++) x.item(0, 1, 0, 4, 1, 0);
        for (int item : new int[] {0, 1, 15, 16, 17, 255, 256, 257}) Check.due("28: number " + item, number(x, item, 0, 3), item);
    }

    private static void promise28Address() {
        PostHouse x = new PostHouse();
        StringBuilder b = new StringBuilder("P1,A;S1,A,0,0,0;R1,A,0,1,120;");
        for (int h = 1; h <= 120; h++) b.append("H1,A,").append(h).append(';');
        Town.book(x, b.toString());
        x.account(0);
        int[] points = {0, 14, 15, 16, 118, 119};
        for (int k = 0; k < points.length; k++) {
            x.item(0, 1, 0, 4, 1, 0);
            Check.due("28: without an address", number(x, k, 4, 3), 0);
            x.address(k, points[k]);
            Check.due("28: address " + points[k], number(x, k, 4, 3), points[k] + 1);
        }
    }

    private static int times(int a, int b) {
        int product = 0;
        for (int bit = 3; bit >= 0; bit--) {
            product <<= 1;
            if ((product & 16) != 0) product ^= 0b10011;
            if ((b >> bit & 1) != 0) product ^= a;
        }
        return product;
    }

    private static boolean isRow(int[] row) {
        for (int a : new int[] {2, 4, 8, 3}) {
            int sum = 0;
            for (int s : row) sum = times(sum, a) ^ s;
            if (sum != 0) return false;
        }
        return true;
    }

    private static int[] row(PostHouse x, int item) {
        int[] row = new int[15];
        for (int k = 0; k < 15; k++) row[k] = x.bar(item, k);
        return row;
    }

    private static void promise28Sums() {
        Random random = new Random(28);
        for (int run = 0; run < 20; run++) {
            PostHouse x = Town.built(0);
            for (int item = 0; item < 14; item++) {
                int services = random.nextInt(8);
                x.item(random.nextInt(4), 1 + random.nextInt(30000), services, 4, 1 + random.nextInt(99), (services & 2) == 0 ? 0 : 1 + random.nextInt(900));
                if (random.nextBoolean()) x.address(item, random.nextInt(5));
                int[] row = row(x, item);
                for (int s : row) Check.due("28: symbols 0 .. 15", s >= 0 && s <= 15 ? 1 : 0, 1);
                Check.due("28: all four sums", isRow(row) ? 1 : 0, 1);
            }
        }
    }

    /** Each symbol is the same, whatever was asked or scanned before. */
    private static void promise28InAnyOrder() {
        PostHouse x = Town.built(0);
        int[][] rows = new int[4][];
        for (int item = 0; item < 4; item++) {
            x.item(item, 7000 * item + 1, 5, 4, 1, 0);
            if (item % 2 == 0) x.address(item, item);
            rows[item] = row(x, item);
        }
        for (int k = 14; k >= 0; k--) {
            for (int item : new int[] {2, 0, 3, 1, 2}) Check.due("28: bar(" + item + ", " + k + ")", x.bar(item, k), rows[item][k]);
        }
        int[] other = rows[3].clone();
        other[9] ^= 6;
        for (int k = 11; k < 15; k++) {
            scan(x, other);
            Check.due("28: behind a scan", x.bar(1, k), rows[1][k]);
            Check.due("30: behind bars", x.mended(), 1);
        }
    }

    private static int scan(PostHouse x, int... symbols) {
        byte[] bytes = new byte[symbols.length];
        for (int k = 0; k < bytes.length; k++) bytes[k] = (byte) symbols[k];
        Town.lay(x, bytes);
        return x.scan();
    }

    private static void promise29Lengths() {
        PostHouse x = town();
        int[] row = row(x, 0);
        Check.due("29: its bars", scan(x, row), 0);
        Check.due("29: an empty tape", x.scan(), Town.OUTSIDE);
        Check.due("29: fourteen", scan(x, java.util.Arrays.copyOf(row, 14)), Town.OUTSIDE);
        Check.due("29: sixteen", scan(x, java.util.Arrays.copyOf(row, 16)), Town.OUTSIDE);
        Check.due("29: one", scan(x, 0), Town.OUTSIDE);
        Check.due("29: thirty", scan(x, new int[30]), Town.OUTSIDE);
        Check.due("30: what was refused did not count", x.mended(), 0);
        Check.due("10: no act", x.count(16), 3);
    }

    private static void promise29Modulo16() {
        PostHouse x = town();
        int[] row = row(x, 0);
        for (int more : new int[] {16, 32, 128, 240}) {
            int[] high = row.clone();
            for (int k = 0; k < 15; k++) high[k] += more;
            Check.due("29: " + more + " more", scan(x, high), 0);
            Check.due("30: they do not differ", x.mended(), 0);
        }
    }

    private static void promise29NumbersOfItems() {
        PostHouse x = Town.built(0);
        PostHouse more = Town.built(0);
        for (int k = 0; k < 4; k++) more.item(0, 1, 0, 4, 1, 0);
        for (int k = 0; k < 3; k++) x.item(0, 1, 0, 4, 1, 0);
        Check.due("29: item 2 of three", scan(x, row(more, 2)), 2);
        Check.due("29: no item 3", scan(x, row(more, 3)), Town.NONE);
        Check.due("30: but there is a row", x.mended(), 0);
        int[] row = row(more, 3);
        row[14] ^= 5;
        row[3] ^= 9;
        Check.due("29: no item 3", scan(x, row), Town.NONE);
        Check.due("30: two of it differed", x.mended(), 2);
        // The number in the row that is found counts, whatever the item's bars are.
        PostHouse other = Town.built(0);
        for (int k = 0; k < 3; k++) other.item(3, 999, 5, 4, 1, 0);
        Check.due("29: other bars of item 2", scan(x, row(other, 2)), 2);
        row = row(other, 2);
        row[2] ^= 1;
        Check.due("29: its number mended", scan(x, row), 2);
    }

    /** The number in the row that is in two symbols at most from this one, and in how many; by trying all. */
    private static int[] byTrying(int[] row) {
        int[] tried = row.clone();
        if (isRow(tried)) return new int[] {tried[0] * 256 + tried[1] * 16 + tried[2], 0};
        for (int i = 0; i < 15; i++) {
            for (int a = 1; a < 16; a++) {
                tried[i] = row[i] ^ a;
                if (isRow(tried)) return new int[] {tried[0] * 256 + tried[1] * 16 + tried[2], 1};
            }
            tried[i] = row[i];
        }
        for (int i = 0; i < 15; i++) {
            for (int a = 1; a < 16; a++) {
                tried[i] = row[i] ^ a;
                for (int j = i + 1; j < 15; j++) {
                    for (int b = 1; b < 16; b++) {
                        tried[j] = row[j] ^ b;
                        if (isRow(tried)) return new int[] {tried[0] * 256 + tried[1] * 16 + tried[2], 2};
                    }
                    tried[j] = row[j];
                }
            }
            tried[i] = row[i];
        }
        return new int[] {Town.NONE, Town.NONE};
    }

    private static void promise29Distances() {
        Random random = new Random(29);
        int[] found = new int[4];
        for (int run = 0; run < 20; run++) {
            PostHouse x = Town.built(0);
            for (int k = 0; k < 40; k++) x.item(1, 1000 + k, 0, 4, 1, 0);
            for (int k = 0; k < 20; k++) {
                int[] row = row(x, random.nextInt(20) + 20);
                for (int errors = random.nextInt(5); errors > 0; errors--) row[random.nextInt(15)] ^= 1 + random.nextInt(15);
                int[] due = byTrying(row);
                Check.due("29: the one row near by", scan(x, row), due[0] >= 0 && due[0] < 40 ? due[0] : Town.NONE);
                Check.due("30: in how many it differed", x.mended(), due[1]);
                found[due[1] + 1]++;
            }
        }
        for (int n : found) Check.due("29: each distance was seen", n > 10 ? 1 : 0, 1);
    }

    private static void promise30Mended() {
        PostHouse x = town();
        Check.due("30: before any", x.mended(), Town.NONE);
        x.scan();
        Check.due("30: a refused one is none", x.mended(), Town.NONE);
        int[] row = row(x, 0);
        row[5] ^= 3;
        scan(x, row);
        Check.due("30: one", x.mended(), 1);
        int[] far = row.clone();
        for (int k = 1; byTrying(far)[1] != Town.NONE; k++) far[k % 15] ^= k % 16;
        Check.due("29: no row", scan(x, far), Town.NONE);
        Check.due("30: no row", x.mended(), Town.NONE);
        scan(x, row);
        x.cut(0, 0);
        x.sync();
        Check.due("29: DOWN", x.scan(), Town.DOWN);
        Check.due("30: DOWN", x.mended(), Town.DOWN);
        Check.due("6: nothing was written", x.start(), 0);
        Check.due("30: it stays over start()", x.mended(), 1);
        Check.due("29: a row of no item", scan(x, row), Town.NONE);
        Check.due("30: it is told, too", x.mended(), 1);
    }
}
