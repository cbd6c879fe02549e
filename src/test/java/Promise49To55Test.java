/** Promises 49 to 55, 67 and 68, edge by edge: doors, what is held, lockers and their boxes, losses. */
public final class Promise49To55Test {
    public static void main(String[] args) {
        promise49Refusals();
        promise49Edges();
        promise49States();
        promise49Order();
        promise49NotHim();
        promise49NoProof();
        promise49WrongSum();
        promise49Bookings();
        promise49GoingBack();
        promise50Miss();
        promise50SeventhDay();
        promise51Refuse();
        promise51GoesBack();
        promise51Dead();
        promise52Refusals();
        promise52WhatFitsNoBox();
        promise52LeastFreeBox();
        promise52ThirdDay();
        promise52NoBox();
        promise53PickUp();
        promise53Order();
        promise54OpenBox();
        promise54Keys();
        promise54LeastBoxOfAKey();
        promise54Barred();
        promise54BarredForADay();
        promise54NothingIsDueAtABox();
        promise55Refusals();
        promise55Leaves();
        promise67Refusals();
        promise67Room();
        promise68LockerAt();
        promise74ItemsGoBack();
        Check.finish();
    }

    /** An item that is OUT at place 0, its account's home in place 1. */
    private static int out(PostHouse x, int kind, int services, int person, int cents) {
        int item = Town.posted(x, kind, services, person, cents);
        Town.bringOut(x, item);
        return item;
    }

    private static PostHouse withOne(int services) {
        PostHouse x = Town.built(0);
        out(x, 0, services, 7, (services & 2) != 0 ? 500 : 0);
        Town.posted(x, 0, 0, 7, 0);
        return x;
    }

    private static void promise49Refusals() {
        for (int call = 0; call < 2; call++) {
            boolean door = call == 0;
            Refusals r = new Refusals(door ? "49" : "53", () -> {
                PostHouse x = withOne(7);
                if (!door) x.miss(0);
                return x;
            });
            int[][] due = {{-1, 7, 1, 500, Town.UNKNOWN}, {2, 7, 1, 500, Town.UNKNOWN}, {2, 0, -1, -1, Town.UNKNOWN}, {0, 0, 1, 500, Town.OUTSIDE}, {0, 100, 1, 500, Town.OUTSIDE},
                {0, -1, 1, 500, Town.OUTSIDE}, {0, 7, -1, 500, Town.OUTSIDE}, {0, 7, 10000, 500, Town.OUTSIDE}, {0, 7, 1, -1, Town.OUTSIDE}, {0, 7, 1, 1000001, Town.OUTSIDE},
                {1, 0, 1, 500, Town.OUTSIDE}, {0, 100, 0, 0, Town.OUTSIDE}, {1, 8, 0, 9, Town.STATE}, {0, 8, 0, 9, Town.NOT_HIM}, {0, 8, 1, 500, Town.NOT_HIM}, {0, 7, 0, 9, Town.NO_PROOF},
                {0, 7, 0, 500, Town.NO_PROOF}, {0, 7, 1, 499, Town.WRONG_SUM}, {0, 7, 1, 501, Town.WRONG_SUM}, {0, 7, 9999, 0, Town.WRONG_SUM}, {0, 7, 1, 1000000, Town.WRONG_SUM}};
            for (int[] d : due) {
                r.due(d[4], "item " + d[0] + " to " + d[1] + " with proof " + d[2] + " and " + d[3],
                    x -> door ? x.hand(d[0], d[1], d[2], d[3]) : x.pickUp(d[0], d[1], d[2], d[3]));
            }
            r.changedNothing();
        }
    }

    private static void promise49Edges() {
        int[][] taken = {{1, 0, 0}, {99, 9999, 0}, {50, 1, 0}};
        for (int[] t : taken) {
            PostHouse x = withOne(0);
            Check.due("49: to " + t[0] + " with proof " + t[1], x.hand(0, t[0], t[1], t[2]), 1);
            Check.due("27: DELIVERED", x.about(0, 0), 5);
        }
        PostHouse x = Town.built(0);
        Town.tariff(x, "K0,40=9999;V1=9999;V2=9999;V4=9999;");
        int a = out(x, 0, 7, 99, 100000);
        Check.due("27: the most that can be due", x.about(a, 16), 140096);
        Check.due("49: just that", x.hand(a, 99, 9999, 140096), 1);
    }

    private static void promise49States() {
        States.only("49: hand", 0, (x, item) -> x.hand(item, 7, 1, 130), States.OUT);
        States.only("53: pickUp", 0, (x, item) -> x.pickUp(item, 7, 1, 130), States.HELD);
        States.only("50: miss", 0, (x, item) -> x.miss(item), States.OUT);
        States.only("51: refuse", 0, (x, item) -> x.refuse(item), States.OUT, States.HELD);
        States.only("55: lose", 0, (x, item) -> x.lose(item), States.TOLD, States.IN, States.BAGGED, States.SORTED, States.OUT, States.HELD);
    }

    private static void promise49Order() {
        PostHouse x = withOne(7);
        Check.due("49: NOT_HIM first", x.hand(0, 8, 0, 0), Town.NOT_HIM);
        Check.due("49: then NO_PROOF", x.hand(0, 7, 0, 0), Town.NO_PROOF);
        Check.due("49: then WRONG_SUM", x.hand(0, 7, 1, 0), Town.WRONG_SUM);
        Check.due("49: then it is handed over", x.hand(0, 7, 1, 500), 1);
        Check.due("49: then STATE", x.hand(0, 8, 0, 0), Town.STATE);
    }

    private static void promise49NotHim() {
        for (int services = 0; services < 8; services++) {
            PostHouse x = withOne(services);
            int cents = (services & 2) != 0 ? 500 : 0;
            Check.due("49: another person, services " + services, x.hand(0, 8, 1, cents), (services & 4) != 0 ? Town.NOT_HIM : 1);
            if ((services & 4) != 0) Check.due("49: himself, services " + services, x.hand(0, 7, 1, cents), 1);
        }
    }

    private static void promise49NoProof() {
        for (int services = 0; services < 8; services++) {
            PostHouse x = withOne(services);
            int cents = (services & 2) != 0 ? 500 : 0;
            Check.due("49: proof 0, services " + services, x.hand(0, 7, 0, cents), (services & 1) != 0 ? Town.NO_PROOF : 1);
            if ((services & 1) != 0) Check.due("49: proof 1, services " + services, x.hand(0, 7, 1, cents), 1);
        }
    }

    private static void promise49WrongSum() {
        PostHouse x = Town.built(1000);
        Town.tariff(x, "K0,40=30;V2=4;");
        int a = out(x, 0, 2, 7, 50);
        for (int cents : new int[] {0, 50, 84, 134, 150, 183, 185}) Check.due("49: " + cents + " for 184", x.hand(a, 7, 0, cents), Town.WRONG_SUM);
        Check.due("49: 184", x.hand(a, 7, 0, 184), 1);
        int b = Town.posted(x, 0, 2, 7, 50);
        x.frank(b);
        Town.bringOut(x, b);
        Check.due("49: franked: 49", x.hand(b, 7, 0, 49), Town.WRONG_SUM);
        Check.due("49: franked: 50", x.hand(b, 7, 0, 50), 1);
        int c = out(x, 1, 0, 7, 0);
        Check.due("49: no price: 100", x.hand(c, 7, 0, 100), Town.WRONG_SUM);
        Check.due("49: no price: 0", x.hand(c, 7, 0, 0), 1);
        int d = out(x, 0, 0, 7, 0);
        Town.tariff(x, "K0,40=7;");
        Check.due("49: by the tariff before", x.hand(d, 7, 0, 130), Town.WRONG_SUM);
        Check.due("49: by the tariff now", x.hand(d, 7, 0, 107), 1);
    }

    private static String entry(PostHouse x, int i) {
        return x.entry(i, 0) + " " + x.entry(i, 1) + " " + x.entry(i, 2) + " " + x.entry(i, 3);
    }

    private static void promise49Bookings() {
        PostHouse x = Town.built(0);
        Town.tariff(x, "K0,40=30;K2,40=0;");
        int a = out(x, 0, 2, 7, 50), b = out(x, 1, 2, 7, 60), c = out(x, 0, 0, 7, 0), d = out(x, 1, 0, 7, 0), e = out(x, 2, 0, 7, 0);
        x.hand(a, 7, 0, 180);
        Check.due("49: first the price, CASH to POST", entry(x, 0), "1 0 130 " + a);
        Check.due("49: then its cents, CASH to its account", entry(x, 1), "1 4 50 " + a);
        x.hand(b, 7, 0, 60);
        Check.due("49: its cents alone", entry(x, 2), "1 4 60 " + b);
        x.miss(c);
        x.pickUp(c, 7, 0, 130);
        Check.due("53: the price alone", entry(x, 3), "1 0 130 " + c);
        x.hand(d, 7, 0, 0);
        Check.due("49: bookings of 0 are none", x.count(11), 4);
        x.hand(e, 7, 0, 100);
        Check.due("49: a price of 0 and 100", entry(x, 4), "1 0 100 " + e);
        Check.due("58: POST", x.balance(0), 360);
        Check.due("58: CASH", x.balance(1), -470);
        Check.due("58: its account", x.balance(4), 110);
    }

    private static void promise49GoingBack() {
        PostHouse x = Town.built(0);
        Town.tariff(x, "K0,40=30;");
        x.account(2);
        x.round(0, 0, 0);
        x.assign(0, 0);
        x.assign(2, 0);
        int item = x.item(0, 40, 7, 5, 7, 500);
        x.address(item, 0);
        x.post(item, 0);
        x.sort(0);
        x.out(0);
        Check.due("27: before", x.about(item, 16), 630);
        x.refuse(item);
        x.sort(0);
        x.out(0);
        Check.due("49: a proof is wanted still", x.hand(item, 99, 0, 130), Town.NO_PROOF);
        Check.due("49: its cents are not due", x.hand(item, 99, 1, 630), Town.WRONG_SUM);
        Check.due("49: nobody is asked", x.hand(item, 99, 1, 130), 1);
        Check.due("59: one booking", entry(x, 0) + x.count(11), "1 0 130 " + item + "1");
        Check.due("58: nothing for its account", x.balance(5), 0);
    }

    private static void promise50Miss() {
        new Refusals("50", () -> withOne(0))
            .due(Town.UNKNOWN, "item -1", x -> x.miss(-1))
            .due(Town.UNKNOWN, "item 2 of two", x -> x.miss(2))
            .due(Town.STATE, "it is IN", x -> x.miss(1))
            .changedNothing();
        PostHouse x = withOne(0);
        Check.due("50: the seventh day", x.miss(0), 7);
        Check.due("27: HELD, till that day, in no locker", x.about(0, 0) * 1000 + x.about(0, 14) * 10 + x.about(0, 15), 6069);
        Check.due("71: HELD at its place", x.trace(0, 4, 0) * 10 + x.trace(0, 4, 1), 60);
        Check.due("50: it is HELD", x.miss(0), Town.STATE);
    }

    private static void promise50SeventhDay() {
        for (int minute : new int[] {0, 1, 1439}) {
            PostHouse x = withOne(0);
            Town.goOn(x, 2);
            if (minute > 0) x.tick(minute);
            Check.due("50: on day 2", x.miss(0), 9);
            Town.goOn(x, 6);
            if (minute < 1439) x.tick(1439 - minute);
            Check.due("75: the last minute of day 8", x.now(), 9 * 1440 - 1);
            Check.due("27: HELD still", x.about(0, 0), 6);
            x.tick(1);
            Check.due("74: the seventh day begins: IN, GOING BACK", x.about(0, 0) * 10 + x.about(0, 10), 11);
            Check.due("27: HELD till no day", x.about(0, 14), Town.NONE);
            Check.due("71: in this minute", x.trace(0, 5, 0) * 100000 + x.trace(0, 5, 2), 100000 + 9 * 1440);
        }
    }

    private static void promise51Refuse() {
        new Refusals("51", () -> {
            PostHouse x = withOne(0);
            x.locker(0, 1);
            x.put(0, 0);
            return x;
        })
            .due(Town.UNKNOWN, "item -1", x -> x.refuse(-1))
            .due(Town.UNKNOWN, "item 2 of two", x -> x.refuse(2))
            .due(Town.STATE, "it is IN", x -> x.refuse(1))
            .due(Town.STATE, "HELD in a locker", x -> x.refuse(0))
            .changedNothing();
        PostHouse x = withOne(0);
        Check.due("51: OUT: it is IN", x.refuse(0), 1);
        Check.due("51: IN", x.refuse(0), Town.STATE);
        PostHouse y = withOne(0);
        y.miss(0);
        Check.due("51: HELD: it is IN", y.refuse(0), 1);
        Check.due("27: HELD no more", y.about(0, 14), Town.NONE);
    }

    private static void promise51GoesBack() {
        PostHouse x = withOne(2);
        x.refuse(0);
        Check.due("51: IN where it was IN last", x.about(0, 0) * 10 + x.about(0, 8), 10);
        Check.due("51: GOING BACK", x.about(0, 10), 1);
        Check.due("51: home", x.about(0, 12), 3);
        Check.due("51: its address is the same", x.about(0, 7), 0);
        Check.due("71: IN", x.trace(0, 4, 0) * 10 + x.trace(0, 4, 1), 10);
        x.leg(0, 1, 10, 5, 1);
        x.bag(0, 1);
        Check.due("44: into a bag for its home", x.into(0, 0), 1);
        x.closeBag(0);
        x.tick(20);
        x.openBag(0);
        Town.bringOut(x, 0);
        Check.due("27: OUT at home", x.about(0, 0) * 10 + x.about(0, 8), 41);
        Check.due("50: nobody there", x.miss(0), 7);
        Check.due("51: HELD and GOING BACK: DEAD", x.refuse(0), 7);
        Check.due("27: DEAD at home", x.about(0, 0) * 10 + x.about(0, 8), 71);
        Check.due("51: DEAD", x.refuse(0), Town.STATE);
    }

    private static PostHouse goingHomeHere() {
        PostHouse x = new PostHouse();
        Town.book(x, Town.BOOK);
        x.account(0);
        x.locker(0, 2);
        out(x, 0, 0, 7, 0);
        x.refuse(0);
        Town.bringOut(x, 0);
        return x;
    }

    private static void promise51Dead() {
        PostHouse x = goingHomeHere();
        Check.due("51: OUT and GOING BACK: DEAD", x.refuse(0), 7);
        Check.due("27: GOING BACK still", x.about(0, 10), 1);
        Check.due("71: DEAD, where it was", x.trace(0, 7, 0) * 10 + x.trace(0, 7, 1), 70);
        PostHouse y = goingHomeHere();
        y.miss(0);
        Town.goOn(y, 6);
        Check.due("27: HELD", y.about(0, 0), 6);
        Town.goOn(y, 1);
        Check.due("74: its day has come: DEAD", y.about(0, 0), 7);
        PostHouse z = goingHomeHere();
        Check.due("52: into a box", z.put(0, 0), 0);
        Town.goOn(z, 3);
        Check.due("74: its day has come: DEAD", z.about(0, 0) * 10 + z.about(0, 15), 69);
        Check.due("68: its box is free", z.lockerAt(0, 2), 2);
        Check.due("54: its key opens nothing", z.openBox(0, Town.key(0)), Town.NONE);
        Check.due("76: audit", z.audit(), 0);
    }

    private static void promise52Refusals() {
        new Refusals("52", () -> {
            PostHouse x = withOne(0);
            x.locker(0, 1);
            x.locker(1, 1);
            return x;
        })
            .due(Town.UNKNOWN, "item -1", x -> x.put(-1, 0))
            .due(Town.UNKNOWN, "item 2 of two", x -> x.put(2, 0))
            .due(Town.UNKNOWN, "locker -1", x -> x.put(0, -1))
            .due(Town.UNKNOWN, "locker 2 of two", x -> x.put(0, 2))
            .due(Town.UNKNOWN, "UNKNOWN before STATE", x -> x.put(1, 2))
            .due(Town.STATE, "it is IN", x -> x.put(1, 0))
            .due(Town.STATE, "a locker at another place", x -> x.put(0, 1))
            .changedNothing();
        for (int state = 0; state < States.MANY; state++) {
            PostHouse x = States.house(0);
            Town.tariff(x, "K1,1=1;");
            Check.due("52: put in state " + state, x.put(state, 0), state == States.OUT ? 0 : Town.STATE);
        }
    }

    private static void promise52WhatFitsNoBox() {
        for (int kind = 0; kind <= 3; kind++) {
            for (int services = 0; services <= 7; services++) {
                PostHouse x = Town.built(0);
                x.locker(0, 1);
                int item = out(x, kind, services, 7, (services & 2) != 0 ? 1 : 0);
                Check.due("52: kind " + kind + ", services " + services, x.put(item, 0), kind <= 1 && services == 0 ? 0 : Town.STATE);
            }
        }
        PostHouse x = Town.built(100);
        x.locker(0, 5);
        int a = out(x, 0, 0, 7, 0);
        Town.tariff(x, "K0,40=0;");
        Check.due("52: 100 are due", x.put(a, 0), Town.STATE);
        Town.tariff(x, "K0,39=0;");
        Check.due("52: it has no price", x.put(a, 0), 0);
        Town.tariff(x, "K0,40=5;");
        int b = Town.posted(x, 0, 0, 7, 0);
        x.frank(b);
        Town.bringOut(x, b);
        Check.due("52: it is franked", x.put(b, 0), 1);
        // What is on delivery and GOING BACK has no cents due: it fits.
        PostHouse y = new PostHouse();
        Town.book(y, Town.BOOK);
        y.account(0);
        y.locker(0, 1);
        int c = out(y, 1, 2, 7, 30);
        Check.due("52: its cents are due", y.put(c, 0), Town.STATE);
        y.refuse(c);
        Town.bringOut(y, c);
        Check.due("52: GOING BACK: they are not", y.put(c, 0), 0);
    }

    private static void promise52LeastFreeBox() {
        PostHouse x = Town.built(0);
        x.locker(0, 3);
        int[] item = new int[6];
        for (int k = 0; k < 6; k++) item[k] = out(x, 0, 0, 7, 0);
        for (int k = 0; k < 3; k++) Check.due("52: box " + k, x.put(item[k], 0), k);
        x.openBox(0, Town.key(item[1]));
        Check.due("52: the box that is free again", x.put(item[3], 0), 1);
        x.lose(item[2]);
        x.lose(item[0]);
        Check.due("68: two are free", x.lockerAt(0, 2), 2);
        Check.due("52: the least of them", x.put(item[4], 0), 0);
        Check.due("52: the other one", x.put(item[5], 0), 2);
        Check.due("68: none is free", x.lockerAt(0, 2), 0);
    }

    private static void promise52ThirdDay() {
        PostHouse x = withOne(0);
        x.locker(0, 1);
        x.tick(1440);
        x.tick(1439);
        x.put(0, 0);
        Check.due("27: HELD till the third day from today", x.about(0, 0) * 10 + x.about(0, 14), 64);
        x.tick(1440);
        x.tick(1440);
        Check.due("27: HELD still", x.about(0, 0) * 10 + x.about(0, 15), 60);
        x.tick(1);
        Check.due("75: day 4", x.now(), 4 * 1440);
        Check.due("74: IN, GOING BACK", x.about(0, 0) * 10 + x.about(0, 10), 11);
        Check.due("74: it left its box", x.about(0, 15) * 10 + x.lockerAt(0, 2), -9);
    }

    private static PostHouse fullLocker(int boxes) {
        PostHouse x = Town.built(0);
        x.locker(0, boxes);
        x.locker(1, 1);
        for (int k = 0; k <= boxes; k++) out(x, k % 2, 0, 7, 0);
        for (int k = 0; k < boxes; k++) Check.due("52: box " + k, x.put(k, 0), k);
        return x;
    }

    private static void promise52NoBox() {
        new Refusals("52", () -> fullLocker(2))
            .due(Town.ROOM, "no box is free", x -> x.put(2, 0))
            .due(Town.STATE, "STATE before ROOM", x -> x.put(0, 0))
            .due(Town.STATE, "a locker at another place", x -> x.put(2, 1))
            .changedNothing();
        for (int boxes : new int[] {1, 9, 10}) {
            PostHouse x = fullLocker(boxes);
            Check.due("52: no box is free of " + boxes, x.put(boxes, 0), Town.ROOM);
            x.lose(boxes - 1);
            Check.due("52: the last box is free again", x.put(boxes, 0), boxes - 1);
        }
    }

    private static void promise53PickUp() {
        PostHouse x = withOne(0);
        Check.due("53: OUT", x.pickUp(0, 7, 0, 0), Town.STATE);
        x.miss(0);
        Check.due("49: HELD", x.hand(0, 7, 0, 0), Town.STATE);
        Check.due("53: HELD", x.pickUp(0, 7, 0, 0), 1);
        Check.due("27: DELIVERED, HELD till no day", x.about(0, 0) * 10 + x.about(0, 14), 49);
        Check.due("53: DELIVERED", x.pickUp(0, 7, 0, 0), Town.STATE);
        PostHouse y = withOne(0);
        y.locker(0, 1);
        y.put(0, 0);
        Check.due("53: HELD in a locker", y.pickUp(0, 7, 0, 0), Town.STATE);
        PostHouse z = withOne(0);
        z.miss(0);
        Town.goOn(z, 6);
        z.tick(1439);
        Check.due("53: in the last minute", z.pickUp(0, 7, 0, 0), 1);
        Town.goOn(z, 1);
        Check.due("74: it does not go back", z.about(0, 0), 5);
    }

    private static void promise53Order() {
        PostHouse x = withOne(7);
        x.miss(0);
        Check.due("53: NOT_HIM first", x.pickUp(0, 8, 0, 0), Town.NOT_HIM);
        Check.due("53: then NO_PROOF", x.pickUp(0, 7, 0, 0), Town.NO_PROOF);
        Check.due("53: then WRONG_SUM", x.pickUp(0, 7, 1, 0), Town.WRONG_SUM);
        Check.due("53: then it is handed over", x.pickUp(0, 7, 1, 500), 1);
        Check.due("59: its cents", entry(x, 0), "1 4 500 0");
        Check.due("53: then STATE", x.pickUp(0, 8, 0, 0), Town.STATE);
    }

    private static PostHouse boxed(int items) {
        PostHouse x = Town.built(0);
        x.locker(0, 3);
        x.locker(0, 2);
        for (int k = 0; k < items; k++) {
            out(x, 0, 0, 7, 0);
            x.put(k, 0);
        }
        return x;
    }

    private static void promise54OpenBox() {
        new Refusals("54", () -> boxed(1))
            .due(Town.UNKNOWN, "locker -1", x -> x.openBox(-1, Town.key(0)))
            .due(Town.UNKNOWN, "locker 2 of two", x -> x.openBox(2, Town.key(0)))
            .changedNothing();
        PostHouse x = boxed(2);
        Check.due("54: another locker", x.openBox(1, Town.key(0)), Town.NONE);
        Check.due("68: a wrong key there", x.lockerAt(1, 3) * 10 + x.lockerAt(0, 3), 10);
        Check.due("54: its key", x.openBox(0, Town.key(1)), 1);
        Check.due("27: DELIVERED, in no locker, till no day", x.about(1, 0) * 100 + x.about(1, 15) * 10 + x.about(1, 14), 489);
        Check.due("68: a right key is not counted", x.lockerAt(0, 3), 0);
        Check.due("68: its box is free", x.lockerAt(0, 2), 2);
        Check.due("54: no such item any more", x.openBox(0, Town.key(1)), Town.NONE);
        Check.due("71: DELIVERED", x.trace(1, 5, 0) * 10 + x.trace(1, 5, 1), 50);
        PostHouse y = Town.built(0);
        y.locker(0, 10);
        for (int key : new int[] {1000, 0, -1}) Check.due("54: an empty box has no key, not " + key, y.openBox(0, key), Town.NONE);
        Check.due("68: three wrong keys", y.lockerAt(0, 3), 3);
        int acts = x.count(16);
        x.openBox(0, 0);
        Check.due("54: a wrong key is an act", x.count(16), acts + 1);
    }

    private static void promise54Keys() {
        PostHouse x = Town.built(0);
        for (int k = 0; k < 4; k++) x.locker(0, 10);
        for (int item = 0; item < 40; item++) {
            Town.posted(x, 0, 0, 7, 0);
        }
        Town.bringOut(x, 0);
        for (int item = 0; item < 40; item++) {
            x.put(item, item / 10);
            Check.due("54: a key of four digits", Town.key(item) >= 1000 && Town.key(item) <= 9999 ? 1 : 0, 1);
        }
        for (int item = 39; item >= 0; item--) Check.due("54: the key of item " + item, x.openBox(item / 10, Town.key(item)), item);
        // Those whose keys would be others if one of the formula's numbers were just one more or less.
        int[] edges = new int[300];
        int many = 0;
        for (int item = 0; item < 300 && many < 10; item++) {
            boolean edge = false;
            for (int more = -1; more <= 1; more++) {
                for (int factor = -1; factor <= 1; factor++) {
                    int sum = (item + 1) * (1103515245 + factor) + 12345 + more;
                    edge |= 1000 + (sum >>> 16) % 9000 != Town.key(item);
                }
            }
            if (edge) edges[many++] = item;
        }
        PostHouse z = Town.built(0);
        z.locker(0, 10);
        for (int item = 0, next = 0; next < many; item++) {
            z.item(0, 1, 0, 4, 1, 0);
            if (item != edges[next]) continue;
            z.address(item, 0);
            z.post(item, 0);
            next++;
        }
        Check.due("54: there are such", many >= 1 ? 1 : 0, 1);
        Town.bringOut(z, edges[0]);
        for (int k = 0; k < many; k++) z.put(edges[k], 0);
        for (int k = 0; k < many; k++) Check.due("54: the key of item " + edges[k], z.openBox(0, Town.key(edges[k])), edges[k]);
        // Item 299 is the last that can be; its product wraps often.
        PostHouse y = Town.built(0);
        for (int k = 0; k < 299; k++) y.item(0, 1, 0, 4, 1, 0);
        y.locker(0, 1);
        int last = out(y, 0, 0, 7, 0);
        y.put(last, 0);
        Check.due("54: a key beside it", y.openBox(0, Town.key(299) - 1), Town.NONE);
        Check.due("54: the key of item 299", y.openBox(0, Town.key(299)), 299);
    }

    /** Of 300 items no two have one key: so it is never asked which of two boxes is the least. */
    private static void promise54LeastBoxOfAKey() {
        java.util.Set<Integer> keys = new java.util.HashSet<>();
        for (int item = 0; item < 300; item++) keys.add(Town.key(item));
        Check.due("54: 300 keys", keys.size(), 300);
    }

    private static void promise54Barred() {
        PostHouse x = boxed(3);
        Check.due("54: wrong", x.openBox(0, Town.key(0) + 1), Town.NONE);
        Check.due("54: wrong", x.openBox(0, Integer.MIN_VALUE), Town.NONE);
        Check.due("68: two", x.lockerAt(0, 3), 2);
        Check.due("54: not BARRED yet, and a right one does not take back", x.openBox(0, Town.key(0)), 0);
        Check.due("68: two", x.lockerAt(0, 3), 2);
        Check.due("54: the third wrong one", x.openBox(0, Integer.MAX_VALUE), Town.NONE);
        Check.due("68: three", x.lockerAt(0, 3), 3);
        Check.due("54: BARRED for a right one", x.openBox(0, Town.key(1)), Town.BARRED);
        Check.due("54: BARRED for a wrong one", x.openBox(0, 0), Town.BARRED);
        Check.due("68: three", x.lockerAt(0, 3), 3);
        Check.due("54: UNKNOWN before BARRED", x.openBox(2, 0), Town.UNKNOWN);
        Check.due("54: another locker is not", x.openBox(1, 0), Town.NONE);
        int item = out(x, 0, 0, 7, 0);
        Check.due("52: a box can be filled", x.put(item, 0), 0);
        Check.due("55: and lost from", x.lose(1), 1);
        new Refusals("54", () -> {
            PostHouse y = boxed(1);
            for (int k = 0; k < 3; k++) y.openBox(0, 1);
            return y;
        })
            .due(Town.BARRED, "it is BARRED", y -> y.openBox(0, Town.key(0)))
            .changedNothing();
    }

    private static void promise54BarredForADay() {
        PostHouse x = boxed(2);
        x.tick(1438);
        for (int k = 0; k < 3; k++) x.openBox(0, 1);
        x.openBox(1, 1);
        x.tick(1);
        Check.due("54: in the last minute of the day", x.openBox(0, Town.key(0)), Town.BARRED);
        x.tick(1);
        Check.due("68: a day began", x.lockerAt(0, 3) * 10 + x.lockerAt(1, 3), 0);
        Check.due("74: BARRED no more", x.openBox(0, Town.key(0)), 0);
        Check.due("54: three more", x.openBox(0, 1) + x.openBox(0, 1) + x.openBox(0, 1), -3);
        Check.due("54: BARRED again", x.openBox(0, Town.key(1)), Town.BARRED);
        x.tick(1439);
        Check.due("54: all the day", x.openBox(0, Town.key(1)), Town.BARRED);
        x.tick(1);
        Check.due("74: BARRED no more", x.openBox(0, Town.key(1)), 1);
    }

    private static void promise54NothingIsDueAtABox() {
        PostHouse x = boxed(1);
        Town.tariff(x, "K0,40=5;");
        Check.due("27: something is due now", x.about(0, 16), 105);
        Check.due("54: its key opens", x.openBox(0, Town.key(0)), 0);
        Check.due("10: nothing is booked", x.count(11), 0);
    }

    private static void promise55Refusals() {
        new Refusals("55", () -> {
            PostHouse x = withOne(0);
            x.lose(1);
            return x;
        })
            .due(Town.UNKNOWN, "item -1", x -> x.lose(-1))
            .due(Town.UNKNOWN, "item 2 of two", x -> x.lose(2))
            .due(Town.STATE, "it is LOST", x -> x.lose(1))
            .changedNothing();
    }

    private static void promise55Leaves() {
        for (int state = 0; state < States.MANY; state++) {
            if (state == States.DELIVERED || state >= States.DEAD) continue;
            PostHouse x = States.house(0);
            int place = x.about(state, 8);
            Check.due("55: LOST from state " + state, x.lose(state), 1);
            Check.due("27: LOST", x.about(state, 0), 8);
            Check.due("27: where it was last", x.about(state, 8), place);
            Check.due("27: in no bag, no locker, HELD till no day", x.about(state, 9) + x.about(state, 15) + x.about(state, 14), -3);
            Check.due("47: what is in the bag", x.bagAt(0, 3), state == States.BAGGED ? 0 : 1);
            Check.due("39: what is in the row", x.row(1, 0), state == States.SORTED ? Town.NONE : States.SORTED);
            Check.due("76: audit", x.audit(), 0);
        }
        PostHouse x = boxed(2);
        x.lose(0);
        Check.due("55: from its box", x.lockerAt(0, 2), 2);
        Check.due("54: its key is wrong", x.openBox(0, Town.key(0)), Town.NONE);
        Check.due("54: the other's is not", x.openBox(0, Town.key(1)), 1);
        PostHouse y = States.house(0);
        y.lose(States.HELD);
        Town.goOn(y, 8);
        Check.due("74: what is LOST does not go back", y.about(States.HELD, 0), 8);
    }

    private static void promise67Refusals() {
        new Refusals("67", () -> Town.built(0))
            .due(Town.UNKNOWN, "place -1", x -> x.locker(-1, 1))
            .due(Town.UNKNOWN, "place 2 of two", x -> x.locker(2, 1))
            .due(Town.UNKNOWN, "UNKNOWN before OUTSIDE", x -> x.locker(2, 0))
            .due(Town.OUTSIDE, "0 boxes", x -> x.locker(0, 0))
            .due(Town.OUTSIDE, "11 boxes", x -> x.locker(0, 11))
            .due(Town.OUTSIDE, "-1 boxes", x -> x.locker(0, -1))
            .changedNothing();
    }

    private static PostHouse lockers(int many) {
        PostHouse x = Town.built(0);
        for (int k = 0; k < many; k++) Check.due("67: its number", x.locker(k % 2, k % 2 == 0 ? 1 : 10), k);
        return x;
    }

    private static void promise67Room() {
        new Refusals("67", () -> lockers(8))
            .due(Town.ROOM, "the ninth", x -> x.locker(0, 1))
            .due(Town.UNKNOWN, "UNKNOWN before ROOM", x -> x.locker(2, 1))
            .due(Town.OUTSIDE, "OUTSIDE before ROOM", x -> x.locker(0, 11))
            .changedNothing();
        PostHouse x = lockers(8);
        Check.due("54: the last one", x.openBox(7, 0), Town.NONE);
        Check.due("54: no more", x.openBox(8, 0), Town.UNKNOWN);
    }

    private static void promise68LockerAt() {
        PostHouse x = lockers(2);
        Check.due("68: locker -1", x.lockerAt(-1, 0), Town.UNKNOWN);
        Check.due("68: locker 2 of two", x.lockerAt(2, 0), Town.UNKNOWN);
        Check.due("68: UNKNOWN before OUTSIDE", x.lockerAt(2, 4), Town.UNKNOWN);
        Check.due("68: what -1", x.lockerAt(0, -1), Town.OUTSIDE);
        Check.due("68: what 4", x.lockerAt(0, 4), Town.OUTSIDE);
        int[][] due = {{0, 1, 1, 0}, {1, 10, 10, 0}};
        for (int l = 0; l < 2; l++) for (int what = 0; what < 4; what++) Check.due("68: lockerAt(" + l + ", " + what + ")", x.lockerAt(l, what), due[l][what]);
        int item = out(x, 0, 0, 7, 0);
        x.put(item, 0);
        x.openBox(0, 1);
        int[] then = {0, 1, 0, 1};
        for (int what = 0; what < 4; what++) Check.due("68: then " + what, x.lockerAt(0, what), then[what]);
    }

    /** When a day begins, items whose day has come go back by numbers, in boxes or not, and before anything else. */
    private static void promise74ItemsGoBack() {
        PostHouse x = Town.built(0);
        x.locker(0, 2);
        for (int k = 0; k < 4; k++) Town.posted(x, 0, 0, 7, 0);
        Town.bringOut(x, 0);
        Check.due("50: on day 0", x.miss(2) + x.miss(0), 14);
        Town.goOn(x, 4);
        x.put(3, 0);
        x.put(1, 0);
        Check.due("27: on day 4 till day 7", x.about(1, 14) * 10 + x.about(3, 14), 77);
        x.wish(4, 1, true);
        Town.goOn(x, 2);
        Check.due("10: on day 6 none", x.count(14), 0);
        Town.goOn(x, 1);
        Check.due("10: on day 7 all", x.count(14), 4);
        for (int k = 0; k < 4; k++) Check.due("74: by numbers", x.notice(k, 1) * 100000 + x.notice(k, 3), k * 100000 + 7 * 1440);
        Check.due("76: audit", x.audit(), 0);
    }
}
