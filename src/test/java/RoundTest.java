/** Promises 31 to 40: the machine, rounds, their order, sorting. */
public final class RoundTest {
    public static void main(String[] args) {
        machineBounds();
        roundsAndStops();
        leastWay();
        equalWays();
        nearestFirst();
        sortRefusals();
        whatIsSorted();
        rankOrder();
        passCounts();
        lateGates();
        lateShutting();
        goingOut();
        lostFromTheRow();
        Check.finish();
    }

    private static void machineBounds() {
        PostHouse x = new PostHouse();
        int[][] outside = {{1, 1, 1, 0}, {17, 1, 1, 0}, {2, 0, 1, 0}, {2, 2001, 1, 0}, {2, 1, 0, 0}, {2, 1, 501, 0}, {2, 1, 1, -1}, {2, 1, 1, 4001}};
        for (int[] m : outside) Check.due("31: OUTSIDE", x.machine(m[0], m[1], m[2], m[3]), Town.OUTSIDE);
        Check.due("31: the least and the most", x.machine(2, 1, 1, 0) + x.machine(16, 2000, 500, 4000), 2);
    }

    private static void roundsAndStops() {
        PostHouse x = Town.built(0);
        Check.due("32: UNKNOWN", x.round(2, 9999, 0) + x.round(-1, 0, 0), 2 * Town.UNKNOWN);
        Check.due("32: OUTSIDE", x.round(0, 2001, 0) + x.round(0, -2001, 0) + x.round(0, 0, 2001) + x.round(0, 0, -2001), 4 * Town.OUTSIDE);
        Check.due("32: its number", x.round(0, 2000, -2000), 0);
        Check.due("32: its number", x.round(1, -2000, 2000), 1);
        Check.due("33: UNKNOWN", x.assign(5, 0) + x.assign(0, 2) + x.assign(-1, 0) + x.assign(0, -1), 4 * Town.UNKNOWN);
        Check.due("33: another place", x.assign(3, 0) + x.assign(0, 1), 2 * Town.STATE);
        Check.due("33: how many points", x.assign(1, 0), 1);
        Check.due("33: how many points", x.assign(0, 0), 2);
        Check.due("33: it has a round", x.assign(1, 0), Town.STATE);
        x.round(0, 0, 0);
        Check.due("33: another one", x.assign(1, 2), Town.STATE);
        Check.due("35: as they were assigned", x.stop(0, 0) * 10 + x.stop(0, 1), 10);
        Check.due("35: none", x.stop(0, 2) + x.stop(0, -1) + x.stop(2, 0), -3);
        Check.due("35: UNKNOWN", x.stop(3, 0) + x.stop(-1, 0), 2 * Town.UNKNOWN);
        Check.due("34: UNKNOWN", x.arrange(3) + x.arrange(-1), 2 * Town.UNKNOWN);
        Check.due("34: without points", x.arrange(2), 0);
        for (int k = 3; k < 12; k++) Check.due("32: its number", x.round(0, k, k), k);
        Check.due("32: twelve rounds", x.round(0, 0, 0), Town.ROOM);
        PostHouse y = new PostHouse();
        StringBuilder text = new StringBuilder("P1,A;S1,A,0,0,0;R1,A,0,1,99;");
        for (int h = 1; h <= 21; h++) text.append("H1,A,").append(h).append(";");
        Town.book(y, text.toString());
        y.round(0, 0, 0);
        for (int p = 0; p < 20; p++) Check.due("33: how many", y.assign(p, 0), p + 1);
        Check.due("33: twenty points", y.assign(20, 0), Town.ROOM);
        Check.due("33: STATE is told first", y.assign(3, 0), Town.STATE);
    }

    /** A house whose points lie in two streets that cross, by these places on them. */
    private static PostHouse streets(int[] along, int[] up, int x, int y) {
        PostHouse house = new PostHouse();
        StringBuilder text = new StringBuilder("P1,A;S1,A,0,0,0;S1,B,0,0,1;R1,A,0,1,999;R1,B,0,1,999;");
        for (int h : along) text.append("H1,A,").append(h).append(";");
        for (int h : up) text.append("H1,B,").append(h).append(";");
        Town.book(house, text.toString());
        house.round(0, x, y);
        return house;
    }

    private static String order(PostHouse x, int round) {
        StringBuilder b = new StringBuilder();
        for (int k = 0; x.stop(round, k) >= 0; k++) b.append(x.stop(round, k)).append(' ');
        return b.toString();
    }

    private static int[] at(int point, int[] along, int[] up) {
        return point < along.length ? new int[] {along[point], 0} : new int[] {0, up[point - along.length]};
    }

    private static void leastWay() {
        int[] along = {10, 30, 20, 5}, up = {40, 15, 7, 22};
        PostHouse x = streets(along, up, 3, 4);
        for (int p = 7; p >= 0; p--) x.assign(p, 0);
        best = Integer.MAX_VALUE;
        tryAll(new int[8], 0, along, up, 3, 4);
        Check.due("34: the least way of eight", x.arrange(0), best);
        Check.due("35: the first order that has it", order(x, 0), bestOrder);
        Check.due("34: again", x.arrange(0), best);
        Check.due("35: the same", order(x, 0), bestOrder);
        PostHouse y = streets(new int[] {9}, new int[] {}, -5, 2);
        y.assign(0, 0);
        Check.due("34: one point, there and back", y.arrange(0), 2 * (14 + 2));
    }

    private static int best;
    private static String bestOrder;

    /** Tries all orders by numbers, so that the first of the least comes first. */
    private static void tryAll(int[] order, int size, int[] along, int[] up, int x, int y) {
        if (size == order.length) {
            int way = 0, atX = x, atY = y;
            StringBuilder b = new StringBuilder();
            for (int p : order) {
                int[] there = at(p, along, up);
                way += Math.abs(there[0] - atX) + Math.abs(there[1] - atY);
                atX = there[0];
                atY = there[1];
                b.append(p).append(' ');
            }
            way += Math.abs(x - atX) + Math.abs(y - atY);
            if (way < best) {
                best = way;
                bestOrder = b.toString();
            }
            return;
        }
        for (int p = 0; p < order.length; p++) {
            boolean taken = false;
            for (int k = 0; k < size; k++) taken |= order[k] == p;
            if (taken) continue;
            order[size] = p;
            tryAll(order, size + 1, along, up, x, y);
        }
    }

    private static void equalWays() {
        // All on one line from the beginning on: every order that goes out and back once is as long.
        PostHouse x = streets(new int[] {30, 10, 20}, new int[] {}, 0, 0);
        for (int p = 0; p < 3; p++) x.assign(p, 0);
        Check.due("34: out and back", x.arrange(0), 60);
        Check.due("35: the first by numbers", order(x, 0), "0 2 1 ");
        PostHouse y = streets(new int[] {10, 20}, new int[] {}, 40, 0);
        y.assign(1, 0);
        y.assign(0, 0);
        Check.due("34: either way round", y.arrange(0), 60);
        Check.due("35: the first by numbers", order(y, 0), "0 1 ");
    }

    private static void nearestFirst() {
        int[] along = {50, 10, 20, 30, 40, 60, 70, 80, 90};
        PostHouse x = streets(along, new int[] {}, 45, 0);
        for (int p = 8; p >= 0; p--) x.assign(p, 0);
        // 50 (point 0) and 40 (point 4) are as near: the least number first; then 40 and 60 are: point 4.
        Check.due("34: nine by the nearest", x.arrange(0), 5 + 10 + 10 + 10 + 10 + 50 + 10 + 10 + 10 + 45);
        Check.due("35: again and again the nearest", order(x, 0), "0 4 3 2 1 5 6 7 8 ");
        PostHouse y = streets(new int[] {50, 10, 20, 30, 40, 60, 70, 80}, new int[] {}, 45, 0);
        for (int p = 7; p >= 0; p--) y.assign(p, 0);
        Check.due("34: eight by the least way", y.arrange(0), 140);
    }

    /** A street of points 0 .. 19 in a round in that order, and items for these points, IN, one for each given. */
    private static PostHouse sorting(int... points) {
        PostHouse x = new PostHouse();
        StringBuilder text = new StringBuilder("P1,A;S1,A,0,0,0;R1,A,0,1,99;P2,B;");
        for (int h = 1; h <= 21; h++) text.append("H1,A,").append(h).append(";");
        Town.book(x, text.toString());
        x.account(20);
        x.round(0, 0, 0);
        for (int p = 0; p < 20; p++) x.assign(p, 0);
        for (int p : points) {
            int item = x.item(0, 10, 0, 4, 1, 0);
            x.address(item, p);
            x.post(item, 0);
        }
        return x;
    }

    private static String row(PostHouse x) {
        StringBuilder b = new StringBuilder();
        for (int k = 0; x.row(0, k) >= 0; k++) b.append(x.row(0, k)).append(' ');
        return b.toString();
    }

    private static String wrong(PostHouse x) {
        StringBuilder b = new StringBuilder();
        for (int k = 0; x.wrong(k) >= 0; k++) b.append(x.wrong(k)).append(' ');
        return b.toString();
    }

    private static void sortRefusals() {
        PostHouse x = sorting(3);
        Check.due("36: UNKNOWN", x.sort(1) + x.sort(-1), 2 * Town.UNKNOWN);
        Check.due("40: UNKNOWN", x.out(1) + x.out(-1), 2 * Town.UNKNOWN);
        Check.due("39: UNKNOWN", x.row(1, 0) + x.row(-1, 0), 2 * Town.UNKNOWN);
        Check.due("40: it is empty", x.out(0), Town.STATE);
        Check.due("37: before any", x.passes(), 0);
        Check.due("38: before any", x.wrong(0), Town.NONE);
        Check.due("36: one", x.sort(0), 1);
        Check.due("37: one pass at least", x.passes(), 1);
        Check.due("36: some are SORTED", x.sort(0), Town.STATE);
        Check.due("39: the row", x.row(0, 0), 0);
        Check.due("39: none", x.row(0, 1) + x.row(0, -1), -2);
        Check.due("38: none", x.wrong(0) + x.wrong(-1), -2);
        x.out(0);
        Check.due("36: without items", x.sort(0), 0);
        Check.due("37: no pass", x.passes(), 0);
    }

    private static void whatIsSorted() {
        PostHouse x = sorting(3, 5, 7, 9, 11, 13, 20);
        int b = x.item(0, 10, 0, 4, 1, 0);
        x.address(b, 4);
        x.post(b, 1);
        int noAddress = x.item(0, 10, 0, 4, 1, 0);
        x.post(noAddress, 0);
        int told = x.item(0, 10, 0, 4, 1, 0);
        x.address(told, 4);
        x.hold(5, 0, 9);
        x.forward(7, 1, 20, 9);
        x.forward(9, 1, 2, 9);
        x.forward(11, 1, 13, 9);
        x.forward(13, 1, 11, 9);
        Check.due("36: two have a goal in the round", x.sort(0), 2);
        Check.due("39: by their goals today", row(x), "3 0 ");
        Check.due("27: they are SORTED", x.about(0, 0) * 10 + x.about(3, 0), 33);
        Check.due("27: others stay IN", x.about(1, 0) * 10 + x.about(4, 0), 11);
    }

    private static void rankOrder() {
        PostHouse x = sorting(9, 2, 9, 0, 19, 2);
        x.machine(8, 100, 50, 0);
        Check.due("36: all", x.sort(0), 6);
        Check.due("39: by stops, then as they came IN", row(x), "3 1 5 0 2 4 ");
        x.out(0);
        x.refuse(5);
        x.refuse(1);
        Check.due("36: their goal is home now, in no round", x.sort(0), 0);
        PostHouse y = sorting(9, 2, 9, 0, 2);
        y.machine(2, 100, 50, 0);
        y.arrange(0);
        Check.due("36: three passes", y.sort(0), 5);
        Check.due("37: of two bins", y.passes(), 3);
        Check.due("39: in order", row(y), "3 1 4 0 2 ");
    }

    private static void passCounts() {
        int[][] due = {{1, 2, 1}, {2, 2, 1}, {3, 2, 2}, {4, 2, 2}, {5, 2, 3}, {9, 3, 2}, {10, 3, 3}, {16, 16, 1}, {17, 16, 2}, {16, 4, 2}, {17, 4, 3}};
        for (int[] d : due) {
            int[] points = new int[d[0]];
            for (int k = 0; k < d[0]; k++) points[k] = (k * 7 + 3) % 20;
            PostHouse x = sorting(points);
            x.machine(d[1], 100, 50, 0);
            Check.due("36: " + d[0] + " items in " + d[1] + " bins", x.sort(0), d[0]);
            Check.due("37: their passes", x.passes(), d[2]);
        }
        PostHouse x = sorting(5, 4, 3, 2, 1);
        Check.due("36: at first the machine has four bins", x.sort(0) * 10 + x.passes(), 52);
    }

    private static void lateGates() {
        // Ranks 1 0: gate 0 is shut for item 0 and would have to open for item 1.
        PostHouse x = sorting(5, 3);
        x.machine(2, 100, 50, 101);
        Check.due("36: less than TURN later", x.sort(0), 1);
        Check.due("38: gate 0 did not open", wrong(x), "1 ");
        Check.due("39: item 0 was right", row(x), "0 ");
        Check.due("27: the wrong one stays IN", x.about(1, 0), 1);
        PostHouse y = sorting(5, 3);
        y.machine(2, 100, 50, 100);
        Check.due("36: TURN later is time enough", y.sort(0), 2);
        Check.due("38: none is wrong", wrong(y), "");
        Check.due("39: in order", row(y), "1 0 ");
        // Item 1 needs gate 0 as it stands for item 0: shut for both.
        PostHouse z = sorting(5, 6);
        z.machine(16, 1, 1, 4000);
        Check.due("36: the first one has time enough at each gate", z.sort(0), 1);
        Check.due("38: gate 0 stood open, and took the second one", wrong(z), "1 ");
        PostHouse w = sorting(4, 3, 2, 1);
        w.machine(4, 100, 50, 150);
        // Ranks 3 2 1 0. Gate 2 opens late for item 1: it comes to gate 3, which is open: bin 3. Item 2: gate 1 is late, gate 2
        // stands shut and is to be shut, gate 3 is open still: bin 3. Item 3: gate 0 is late; gates 1 and 2 are as wanted; bin 3.
        Check.due("36: one of four", w.sort(0), 1);
        Check.due("38: three are wrong", wrong(w), "1 2 3 ");
    }

    private static void lateShutting() {
        // Ranks 0 2 1: item 1 is taken by gate 0, which shuts late; item 2 comes 200 behind item 0 ... but only 100 behind item 1.
        PostHouse x = sorting(1, 3, 2);
        x.machine(3, 100, 50, 150);
        Check.due("36: gate 0 takes all", x.sort(0), 1);
        Check.due("38: two are wrong", wrong(x), "1 2 ");
        // Ranks 1 0 3 2 in two bins: in the first pass own bins 1 0 1 0.
        PostHouse y = sorting(2, 1, 4, 3);
        y.machine(2, 100, 50, 150);
        // First pass: gate 0 never opens, gate 1 never shuts: 1 and 3 are wrong. Second pass, own bins 0 0 1 1: gate 0 never
        // shuts: 2 is wrong, too.
        Check.due("36: one of four", y.sort(0), 1);
        Check.due("38: wrong in some pass", wrong(y), "1 2 3 ");
        Check.due("37: of two passes", y.passes(), 2);
    }

    private static void goingOut() {
        PostHouse x = sorting(9, 2, 4);
        x.sort(0);
        Check.due("40: all of the row", x.out(0), 3);
        Check.due("39: it is empty", x.row(0, 0), Town.NONE);
        Check.due("40: it is empty", x.out(0), Town.STATE);
        for (int i = 0; i < 3; i++) Check.due("27: OUT", x.about(i, 0), 4);
        x.wish(4, 4, true);
        x.refuse(0);
        int item = x.item(0, 10, 0, 4, 1, 0);
        x.address(item, 7);
        x.post(item, 0);
        int other = x.item(0, 10, 0, 4, 1, 0);
        x.address(other, 6);
        x.post(other, 0);
        x.sort(0);
        x.out(0);
        Check.due("40: in its order", x.notice(0, 1) * 10 + x.notice(1, 1), other * 10 + item);
        Check.due("37: the latest sort", x.passes(), 1);
    }

    private static void lostFromTheRow() {
        PostHouse x = sorting(9, 2, 4);
        x.sort(0);
        Check.due("55: lost from the row", x.lose(2), 1);
        Check.due("39: the others stay", row(x), "1 0 ");
        x.lose(1);
        x.lose(0);
        Check.due("40: it is empty", x.out(0), Town.STATE);
        Check.due("36: and may be sorted", x.sort(0), 0);
    }
}
