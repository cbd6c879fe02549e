/** A house with an item in each state: item 0 is TOLD, item 1 IN, and so on up to item 8, which is LOST. */
final class States {
    static final int TOLD = 0, IN = 1, BAGGED = 2, SORTED = 3, OUT = 4, DELIVERED = 5, HELD = 6, DEAD = 7, LOST = 8, MANY = 9;

    interface Call {
        long on(PostHouse x, int item);
    }

    private States() { }

    /**
     * In the town, at place 0. Round 0 has point 0, round 1 has point 2 with the SORTED item; bag 0 is OPEN, from place 0 to 1,
     * with the BAGGED one; locker 0 has two boxes. All have kind 0, weight 40, person 7, these services, and 9 cents with service 2.
     */
    static PostHouse house(int services) {
        PostHouse x = Town.built(1000);
        Town.tariff(x, "K0,40=30;");
        x.account(0);
        x.round(0, 0, 0);
        x.assign(0, 0);
        x.round(0, 0, 0);
        x.assign(2, 1);
        x.bag(0, 1);
        x.locker(0, 2);
        for (int item = 0; item < MANY; item++) x.item(0, 40, services, item == DEAD ? 5 : 4, 7, (services & 2) != 0 ? 9 : 0);
        int[] point = {-1, 3, 3, 2, 0, 0, 0, 0, 0};
        for (int item = 2; item < MANY; item++) {
            x.address(item, point[item]);
            x.post(item, 0);
        }
        x.into(0, BAGGED);
        x.lose(LOST);
        x.sort(1);
        x.sort(0);
        x.out(0);
        x.hand(DELIVERED, 7, 1, x.about(DELIVERED, 16));
        x.miss(HELD);
        x.refuse(DEAD);
        x.sort(0);
        x.out(0);
        x.refuse(DEAD);
        x.address(IN, point[IN]);
        x.post(IN, 0);
        for (int item = 0; item < MANY; item++) Check.due("27: state of item " + item, x.about(item, 0), item);
        return x;
    }

    /** Tries a call on an item of each state, in a house of its own; it is due to be STATE but for these. */
    static void only(String name, int services, Call call, int... taken) {
        for (int state = 0; state < MANY; state++) {
            boolean due = false;
            for (int t : taken) due |= t == state;
            PostHouse x = house(services);
            long got = call.on(x, state);
            Check.due(name + " in state " + state, due ? got >= 0 ? 1 : got : got, due ? 1 : Town.STATE);
            if (!due) Check.due(name + " in state " + state + ": it changed nothing", Whole.of(x), Whole.of(house(services)));
        }
    }
}
