import java.util.ArrayList;
import java.util.List;
import java.util.Random;

/** Promises 31 to 40, edge by edge: the machine, rounds and their order, sorting, rows that go out. */
public final class Promise31To40Test {
    public static void main(String[] args) {
        promise31Refusals();
        promise31Taken();
        promise31AtFirst();
        promise31RefusedStays();
        promise32Refusals();
        promise32Room();
        promise33Refusals();
        promise33Room();
        promise34FewPoints();
        promise34EightAndNine();
        promise34LeastWay();
        promise34TheNearest();
        promise34Refusals();
        promise35Stop();
        promise36Refusals();
        promise36WhatIsSorted();
        promise36GoalsThatAreNone();
        promise36GoingBack();
        promise36CameIn();
        promise36CameInByBags();
        promise37Passes();
        promise36Turn();
        promise36LateAtAnyGate();
        promise38Wrong();
        promise38Latest();
        promise39Row();
        promise40Out();
        promise40Order();
        promise40LostFromTheRow();
        Check.finish();
    }

    private static void promise31Refusals() {
        new Refusals("31", PostHouse::new)
            .due(Town.OUTSIDE, "1 bin", x -> x.machine(1, 1, 1, 0))
            .due(Town.OUTSIDE, "17 bins", x -> x.machine(17, 1, 1, 0))
            .due(Town.OUTSIDE, "0 bins", x -> x.machine(0, 1, 1, 0))
            .due(Town.OUTSIDE, "gap 0", x -> x.machine(2, 0, 1, 0))
            .due(Town.OUTSIDE, "gap 2001", x -> x.machine(2, 2001, 1, 0))
            .due(Town.OUTSIDE, "step 0", x -> x.machine(2, 1, 0, 0))
            .due(Town.OUTSIDE, "step 501", x -> x.machine(2, 1, 501, 0))
            .due(Town.OUTSIDE, "turn -1", x -> x.machine(2, 1, 1, -1))
            .due(Town.OUTSIDE, "turn 4001", x -> x.machine(2, 1, 1, 4001))
            .changedNothing();
    }

    private static void promise31Taken() {
        PostHouse x = new PostHouse();
        int[][] taken = {{2, 1, 1, 0}, {16, 1, 1, 0}, {2, 2000, 1, 0}, {2, 1, 500, 0}, {2, 1, 1, 4000}};
        for (int[] m : taken) Check.due("31: an edge", x.machine(m[0], m[1], m[2], m[3]), 1);
        Check.due("10: all are acts", x.count(16), 5);
    }

    /** A street of points 0 .. 20, of which 0 .. 19 are in round 0 in that order; items for these points come IN one by one. */
    private static PostHouse sorting(int... points) {
        PostHouse x = new PostHouse();
        StringBuilder text = new StringBuilder("P1,A;S1,A,0,0,0;R1,A,0,1,99;P2,B;");
        for (int h = 1; h <= 21; h++) text.append("H1,A,").append(h).append(";");
        Town.book(x, text.toString());
        x.account(20);
        x.round(0, 0, 0);
        for (int p = 0; p < 20; p++) x.assign(p, 0);
        for (int p : points) comeIn(x, p);
        return x;
    }

    private static int comeIn(PostHouse x, int point) {
        int item = x.item(0, 10, 0, 4, 1, 0);
        x.address(item, point);
        x.post(item, 0);
        return item;
    }

    private static String row(PostHouse x) {
        StringBuilder b = new StringBuilder();
        for (int k = 0; x.row(0, k) >= 0; k++) b.append(x.row(0, k)).append(' ');
        return b.toString();
    }

    private static String wrong(PostHouse x) {
        StringBuilder b = new StringBuilder();
        for (int k = 0; x.wrong(k) >= 0; k++) b.append(x.wrong(k)).append(' ');
        return b.toString();
    }

    private static void promise31AtFirst() {
        PostHouse x = sorting(4, 3, 2, 1);
        Check.due("31: at first the gap is enough for the turn", x.sort(0), 4);
        Check.due("31: four items in one pass", x.passes(), 1);
        PostHouse y = sorting(4, 3, 2, 1, 5);
        Check.due("31: five want two", y.sort(0) * 10 + y.passes(), 52);
        Check.due("39: in order", row(y), "3 2 1 0 4 ");
        PostHouse z = sorting(4, 3, 2, 1, 5);
        z.machine(2, 1, 1, 4000);
        z.sync();
        z.poke(1, 5, 1);
        Check.due("6: an empty house", Disk.restart(z), 0);
        PostHouse w = sorting(4, 3, 2, 1, 5);
        w.sync();
        w.machine(2, 1, 1, 4000);
        Disk.restart(w);
        Check.due("6: the machine as it was at first", w.sort(0) * 10 + w.passes(), 52);
    }

    private static void promise31RefusedStays() {
        PostHouse x = sorting(4, 3, 2);
        x.machine(3, 100, 1, 100);
        x.machine(2, 100, 1, 4001);
        x.machine(17, 1, 1, 4000);
        Check.due("31: what was refused did not count", x.sort(0) * 10 + x.passes(), 31);
    }

    private static void promise32Refusals() {
        new Refusals("32", () -> Town.built(0))
            .due(Town.UNKNOWN, "place -1", x -> x.round(-1, 0, 0))
            .due(Town.UNKNOWN, "place 2 of two", x -> x.round(2, 0, 0))
            .due(Town.UNKNOWN, "UNKNOWN before OUTSIDE", x -> x.round(2, 2001, 0))
            .due(Town.OUTSIDE, "x -2001", x -> x.round(0, -2001, 0))
            .due(Town.OUTSIDE, "x 2001", x -> x.round(0, 2001, 0))
            .due(Town.OUTSIDE, "y -2001", x -> x.round(0, 0, -2001))
            .due(Town.OUTSIDE, "y 2001", x -> x.round(0, 0, 2001))
            .changedNothing();
    }

    private static PostHouse rounds(int many) {
        PostHouse x = Town.built(0);
        int[][] at = {{-2000, 0}, {2000, 0}, {0, -2000}, {0, 2000}};
        for (int k = 0; k < many; k++) Check.due("32: its number", x.round(k % 2, at[k % 4][0], at[k % 4][1]), k);
        return x;
    }

    private static void promise32Room() {
        new Refusals("32", () -> rounds(12))
            .due(Town.ROOM, "the thirteenth", x -> x.round(0, 0, 0))
            .due(Town.UNKNOWN, "UNKNOWN before ROOM", x -> x.round(2, 0, 0))
            .due(Town.OUTSIDE, "OUTSIDE before ROOM", x -> x.round(0, 0, 2001))
            .changedNothing();
        PostHouse x = rounds(12);
        Check.due("33: the last one", x.assign(4, 11), 1);
        Check.due("17: the round of the point", x.pointAt(4, 5), 11);
        // Point 4 lies at (-3, 5), the beginning at (0, 2000).
        Check.due("34: its way", x.arrange(11), 2 * (3 + 1995));
    }

    private static PostHouse assigned() {
        PostHouse x = rounds(3);
        x.assign(1, 0);
        return x;
    }

    private static void promise33Refusals() {
        new Refusals("33", Promise31To40Test::assigned)
            .due(Town.UNKNOWN, "point -1", x -> x.assign(-1, 0))
            .due(Town.UNKNOWN, "point 5 of five", x -> x.assign(5, 0))
            .due(Town.UNKNOWN, "round -1", x -> x.assign(0, -1))
            .due(Town.UNKNOWN, "round 3 of three", x -> x.assign(0, 3))
            .due(Town.UNKNOWN, "UNKNOWN before STATE", x -> x.assign(1, 3))
            .due(Town.STATE, "it is of another place", x -> x.assign(3, 0))
            .due(Town.STATE, "it is of another place", x -> x.assign(0, 1))
            .due(Town.STATE, "it has this round", x -> x.assign(1, 0))
            .due(Town.STATE, "it has another round", x -> x.assign(1, 2))
            .changedNothing();
        PostHouse x = assigned();
        Check.due("33: behind its others", x.assign(0, 0), 2);
        Check.due("35: in the order in which they were assigned", x.stop(0, 0) * 10 + x.stop(0, 1), 10);
        Check.due("33: the first of another one", x.assign(2, 2), 1);
    }

    private static void promise33Room() {
        PostHouse x = sorting();
        Check.due("35: the twentieth", x.stop(0, 19), 19);
        Check.due("33: twenty points", x.assign(20, 0), Town.ROOM);
        Check.due("33: STATE before ROOM", x.assign(3, 0), Town.STATE);
        Check.due("33: UNKNOWN before ROOM", x.assign(21, 0), Town.UNKNOWN);
        Check.due("17: it has no round", x.pointAt(20, 5), Town.NONE);
        x.round(0, 0, 0);
        Check.due("33: another one has room", x.assign(20, 1), 1);
        Check.due("33: how many", sorting().stop(0, 20), Town.NONE);
    }

    /** Points that lie along two streets from (0, 0), by their steps on them, in a round that begins at x, y. */
    private static PostHouse cross(int[] along, int[] up, int x, int y) {
        PostHouse house = new PostHouse();
        StringBuilder text = new StringBuilder("P1,A;S1,A,0,0,0;S1,B,0,0,1;R1,A,0,1,999;R1,B,0,1,999;");
        for (int h : along) text.append("H1,A,").append(h).append(";");
        for (int h : up) text.append("H1,B,").append(h).append(";");
        Town.book(house, text.toString());
        house.round(0, x, y);
        return house;
    }

    private static String order(PostHouse x) {
        StringBuilder b = new StringBuilder();
        for (int k = 0; x.stop(0, k) >= 0; k++) b.append(x.stop(0, k)).append(' ');
        return b.toString();
    }

    private static void promise34FewPoints() {
        PostHouse x = cross(new int[] {10, 30, 20}, new int[] {}, 0, 0);
        Check.due("34: without points", x.arrange(0), 0);
        x.assign(1, 0);
        Check.due("34: one, there and back", x.arrange(0), 60);
        x.assign(0, 0);
        Check.due("34: two", x.arrange(0), 60);
        Check.due("35: of two orders as long the first by numbers", order(x), "0 1 ");
        x.assign(2, 0);
        Check.due("35: behind the others again", order(x), "0 1 2 ");
        Check.due("34: three", x.arrange(0), 60);
        Check.due("35: the first by numbers of those with the least way", order(x), "0 1 2 ");
        PostHouse y = cross(new int[] {5}, new int[] {}, -7, -9);
        y.assign(0, 0);
        Check.due("34: x and y", y.arrange(0), 2 * (12 + 9));
    }

    private static void promise34EightAndNine() {
        int[] along = {50, 10, 20, 30, 40, 60, 70, 80, 90};
        for (int size = 8; size <= 9; size++) {
            PostHouse x = cross(along, new int[] {}, 45, 0);
            for (int p = size - 1; p >= 0; p--) x.assign(p, 0);
            // Of nine the nearest: 50 (point 0) before 40 (as near, but point 4), then 40 before 60.
            Check.due("34: " + size + " points", x.arrange(0), size == 8 ? 140 : 5 + 10 + 10 + 10 + 10 + 50 + 10 + 10 + 10 + 45);
            if (size == 9) Check.due("35: again and again the nearest", order(x), "0 4 3 2 1 5 6 7 8 ");
            else Check.due("35: the first order of the least way", order(x), bestOrder(along, 8, 45));
        }
    }

    /** By trying all orders of points on one line: the first of those with the least way. */
    private static String bestOrder(int[] along, int size, int from) {
        List<Integer> best = new ArrayList<>();
        bestWay = Integer.MAX_VALUE;
        int[][] at = new int[size][];
        for (int p = 0; p < size; p++) at[p] = new int[] {along[p], 0};
        tryAll(new ArrayList<>(), at, from, 0, best);
        return spell(best);
    }

    private static String spell(List<Integer> order) {
        StringBuilder b = new StringBuilder();
        for (int p : order) b.append(p).append(' ');
        return b.toString();
    }

    private static int bestWay;

    private static void tryAll(List<Integer> order, int[][] at, int x, int y, List<Integer> best) {
        if (order.size() == at.length) {
            int way = 0, atX = x, atY = y;
            for (int p : order) {
                way += Math.abs(at[p][0] - atX) + Math.abs(at[p][1] - atY);
                atX = at[p][0];
                atY = at[p][1];
            }
            way += Math.abs(x - atX) + Math.abs(y - atY);
            if (way >= bestWay) return;
            bestWay = way;
            best.clear();
            best.addAll(order);
            return;
        }
        for (int p = 0; p < at.length; p++) {
            if (order.contains(p)) continue;
            order.add(p);
            tryAll(order, at, x, y, best);
            order.remove(order.size() - 1);
        }
    }

    private static int[][] places(int[] along, int[] up) {
        int[][] at = new int[along.length + up.length][];
        for (int p = 0; p < at.length; p++) at[p] = p < along.length ? new int[] {along[p], 0} : new int[] {0, up[p - along.length]};
        return at;
    }

    private static int[] some(Random random, int many, int bound) {
        List<Integer> all = new ArrayList<>();
        while (all.size() < many) {
            int h = 1 + random.nextInt(bound);
            if (!all.contains(h)) all.add(h);
        }
        return all.stream().mapToInt(h -> h).toArray();
    }

    private static void promise34LeastWay() {
        Random random = new Random(34);
        for (int run = 0; run < 40; run++) {
            int size = 1 + run % 8;
            int[] along = some(random, (size + 1) / 2, run < 20 ? 8 : 300), up = some(random, size / 2, run < 20 ? 8 : 300);
            int x = random.nextInt(20) - 5, y = random.nextInt(20) - 5;
            PostHouse house = cross(along, up, x, y);
            List<Integer> assigned = new ArrayList<>();
            for (int k = 0; k < size; k++) assigned.add(random.nextInt(k + 1), k);
            for (int k : assigned) house.assign(k, 0);
            List<Integer> best = new ArrayList<>();
            bestWay = Integer.MAX_VALUE;
            int[][] all = places(along, up);
            tryAll(new ArrayList<>(), all, x, y, best);
            Check.due("34: the least way of " + size, house.arrange(0), bestWay);
            Check.due("35: its first order", order(house), spell(best));
        }
    }

    private static void promise34TheNearest() {
        Random random = new Random(35);
        for (int run = 0; run < 40; run++) {
            int size = 9 + run % 12;
            int[] along = some(random, size / 2, run < 20 ? 20 : 900), up = some(random, size - size / 2, run < 20 ? 20 : 900);
            int x = random.nextInt(40) - 20, y = random.nextInt(40) - 20;
            PostHouse house = cross(along, up, x, y);
            for (int k = 0; k < size; k++) house.assign(size - 1 - k, 0);
            int[][] all = places(along, up);
            List<Integer> order = new ArrayList<>();
            int way = 0, atX = x, atY = y;
            while (order.size() < size) {
                int nearest = Town.NONE, least = Integer.MAX_VALUE;
                for (int p = 0; p < size; p++) {
                    int far = Math.abs(all[p][0] - atX) + Math.abs(all[p][1] - atY);
                    if (order.contains(p) || far >= least) continue;
                    nearest = p;
                    least = far;
                }
                order.add(nearest);
                way += least;
                atX = all[nearest][0];
                atY = all[nearest][1];
            }
            way += Math.abs(x - atX) + Math.abs(y - atY);
            Check.due("34: the way of " + size, house.arrange(0), way);
            Check.due("35: by the nearest", order(house), spell(order));
            Check.due("34: again", house.arrange(0), way);
        }
    }

    private static void promise34Refusals() {
        new Refusals("34", Promise31To40Test::assigned)
            .due(Town.UNKNOWN, "round -1", x -> x.arrange(-1))
            .due(Town.UNKNOWN, "round 3 of three", x -> x.arrange(3))
            .changedNothing();
        Check.due("34: without points it is an act", assigned().arrange(2), 0);
    }

    private static void promise35Stop() {
        PostHouse x = assigned();
        Check.due("35: round -1", x.stop(-1, 0), Town.UNKNOWN);
        Check.due("35: round 3 of three", x.stop(3, 0), Town.UNKNOWN);
        Check.due("35: UNKNOWN before NONE", x.stop(3, -1), Town.UNKNOWN);
        Check.due("35: point -1", x.stop(0, -1), Town.NONE);
        Check.due("35: point 0", x.stop(0, 0), 1);
        Check.due("35: point 1 of one", x.stop(0, 1), Town.NONE);
        Check.due("35: a round without points", x.stop(1, 0), Town.NONE);
        Check.due("35: far away", x.stop(0, Integer.MAX_VALUE) + x.stop(0, Integer.MIN_VALUE), -2);
    }

    private static void promise36Refusals() {
        new Refusals("36", () -> {
            PostHouse x = sorting(3, 2);
            x.sort(0);
            comeIn(x, 4);
            return x;
        })
            .due(Town.UNKNOWN, "round -1", x -> x.sort(-1))
            .due(Town.UNKNOWN, "round 1 of one", x -> x.sort(1))
            .due(Town.STATE, "some of it are SORTED", x -> x.sort(0))
            .changedNothing();
        PostHouse x = sorting(3, 2);
        x.sort(0);
        x.lose(0);
        Check.due("36: one of it is SORTED still", x.sort(0), Town.STATE);
        x.lose(1);
        comeIn(x, 4);
        Check.due("36: none is", x.sort(0), 1);
        x.round(0, 0, 0);
        Check.due("36: another round, without points", x.sort(1), 0);
        Check.due("36: without items it may be sorted again", x.sort(1), 0);
    }

    private static void promise36WhatIsSorted() {
        PostHouse x = sorting(3, 20);
        x.round(1, 0, 0);
        int elsewhere = x.item(0, 10, 0, 4, 1, 0);
        x.address(elsewhere, 4);
        x.post(elsewhere, 1);
        int told = x.item(0, 10, 0, 4, 1, 0);
        x.address(told, 5);
        int without = x.item(0, 10, 0, 4, 1, 0);
        x.post(without, 0);
        int lost = comeIn(x, 6);
        x.lose(lost);
        Check.due("36: but for one all are told, elsewhere, without an address, LOST or for no stop", x.sort(0), 1);
        Check.due("39: the one", row(x), "0 ");
        Check.due("27: others stay as they were", x.about(1, 0) * 100 + x.about(elsewhere, 0) * 10 + x.about(told, 0), 110);
        Check.due("36: a round of the other place", x.sort(1), 0);
        x.out(0);
        x.round(0, 0, 0);
        x.assign(20, 2);
        Check.due("36: a point of another round", x.sort(0), 0);
        Check.due("36: there it is", x.sort(2), 1);
    }

    private static void promise36GoalsThatAreNone() {
        PostHouse x = sorting(3, 4, 5, 6, 7, 8);
        x.hold(3, 0, 9);
        x.forward(4, 0, 5, 9);
        x.forward(5, 2, 6, 9);
        x.forward(6, 0, 7, 9);
        x.forward(7, 0, 6, 9);
        x.forward(8, 0, 20, 9);
        // Item 0 is HELD, 3 and 4 are in a RING, 5 goes out of the round; 1 goes to 5, 2 is there.
        Check.due("36: two have a goal in it", x.sort(0), 2);
        Check.due("39: both for one point, as they came IN", row(x), "1 2 ");
    }

    private static void promise36GoingBack() {
        PostHouse x = sorting(3, 4);
        x.account(7);
        int item = x.item(0, 10, 0, 5, 1, 0);
        x.address(item, 9);
        x.post(item, 0);
        x.sort(0);
        x.out(0);
        x.refuse(0);
        x.refuse(item);
        Check.due("36: home is a point of the round, or not", x.sort(0), 1);
        Check.due("39: it goes home", row(x), item + " ");
    }

    private static void promise36CameIn() {
        PostHouse x = sorting();
        int[] items = new int[4];
        for (int k = 0; k < 4; k++) {
            items[k] = x.item(0, 10, 0, 4, 1, 0);
            x.address(items[k], 6);
        }
        for (int k : new int[] {2, 0, 3, 1}) x.post(items[k], 0);
        Check.due("36: four for one point", x.sort(0), 4);
        Check.due("39: as they came IN, not by numbers", row(x), "2 0 3 1 ");
        PostHouse y = sorting();
        for (int k = 0; k < 3; k++) y.address(y.item(0, 10, 0, 4, 1, 0), 2 - k);
        for (int k : new int[] {1, 2, 0}) y.post(k, 0);
        y.machine(3, 100, 1, 101);
        Check.due("36: the first that came IN is fed first", y.sort(0), 1);
        Check.due("39: it alone is right", row(y), "1 ");
        Check.due("38: the others by numbers", wrong(y), "0 2 ");
    }

    private static void promise36CameInByBags() {
        PostHouse x = sorting();
        x.leg(1, 0, 10, 5, 3);
        x.bag(1, 0);
        for (int k = 0; k < 3; k++) {
            x.address(x.item(0, 10, 0, 4, 1, 0), 6);
            x.post(k, 1);
        }
        int early = comeIn(x, 6);
        for (int k : new int[] {1, 0, 2}) x.into(0, k);
        x.closeBag(0);
        x.tick(20);
        int between = comeIn(x, 6);
        x.openBag(0);
        int late = comeIn(x, 6);
        Check.due("36: six for one point", x.sort(0), 6);
        Check.due("39: from a bag as they came into it", row(x), early + " " + between + " 1 0 2 " + late + " ");
        x.out(0);
        PostHouse y = sorting(5, 5, 5);
        y.account(5);
        for (int k = 0; k < 3; k++) {
            y.address(y.item(0, 10, 0, 5, 1, 0), 5);
            y.post(3 + k, 0);
        }
        y.sort(0);
        y.out(0);
        for (int k : new int[] {4, 3, 5}) y.refuse(k);
        Check.due("36: three go home", y.sort(0), 3);
        Check.due("39: as they came IN again", row(y), "4 3 5 ");
    }

    private static void promise37Passes() {
        Check.due("37: before any", new PostHouse().passes(), 0);
        int[][] due = {{0, 2, 0}, {1, 2, 1}, {2, 2, 1}, {3, 2, 2}, {4, 2, 2}, {5, 2, 3}, {8, 2, 3}, {9, 2, 4}, {16, 2, 4}, {17, 2, 5}, {32, 2, 5}, {33, 2, 6}, {3, 3, 1}, {4, 3, 2}, {9, 3, 2},
            {10, 3, 3}, {27, 3, 3}, {28, 3, 4}, {16, 4, 2}, {17, 4, 3}, {15, 16, 1}, {16, 16, 1}, {17, 16, 2}, {64, 8, 2}, {65, 8, 3}};
        for (int[] d : due) {
            int[] points = new int[d[0]];
            for (int k = 0; k < d[0]; k++) points[k] = (k * 7 + 3) % 20;
            PostHouse x = sorting(points);
            x.machine(d[1], 100, 50, 100);
            Check.due("36: " + d[0] + " items in " + d[1] + " bins", x.sort(0), d[0]);
            Check.due("37: their passes", x.passes(), d[2]);
            Check.due("38: none is wrong", x.wrong(0), Town.NONE);
            for (int k = 0, before = -1; k < d[0]; k++) {
                int item = x.row(0, k), rank = points[item] * 1000 + item;
                Check.due("39: by their points, then as they came IN", rank > before ? 1 : 0, 1);
                before = rank;
            }
        }
    }

    private static void promise36Turn() {
        int[][] due = {{100, 99, 3}, {100, 100, 3}, {100, 101, 1}, {1, 0, 3}, {1, 1, 3}, {1, 2, 1}, {2000, 2000, 3}, {2000, 2001, 1}, {2000, 4000, 1}, {1999, 2000, 1}};
        for (int[] d : due) {
            for (int step : new int[] {1, 500}) {
                PostHouse x = sorting(3, 2, 1);
                x.machine(3, d[0], step, d[1]);
                Check.due("36: gap " + d[0] + ", turn " + d[1], x.sort(0), d[2]);
                Check.due("38: those that came to a gate too soon", wrong(x), d[2] == 3 ? "" : "1 2 ");
            }
        }
    }

    private static void promise36LateAtAnyGate() {
        // The first one has time enough at each gate; what comes behind it finds the gates as they stood for it.
        int[][] orders = {{1, 2, 3}, {1, 3, 2}, {2, 1, 3}, {2, 3, 1}, {3, 1, 2}, {3, 2, 1}};
        for (int[] points : orders) {
            PostHouse x = sorting(points);
            x.machine(3, 10, 5, 11);
            Check.due("36: the first alone", x.sort(0), 1);
            Check.due("39: it is right", row(x), "0 ");
            Check.due("38: the others are not", wrong(x), "1 2 ");
            Check.due("27: they stay IN", x.about(1, 0) * 10 + x.about(2, 0), 11);
        }
        PostHouse y = sorting(1, 1, 2, 2, 3);
        y.machine(2, 10, 5, 11);
        Check.due("36: of three passes", y.sort(0) * 10 + y.passes(), 13);
        y.out(0);
        Check.due("36: the next one", y.sort(0) * 10 + y.passes(), 12);
        Check.due("39: it came IN next", row(y), "1 ");
        y.out(0);
        y.machine(2, 10, 5, 10);
        Check.due("36: with time enough", y.sort(0), 3);
        Check.due("39: all that were wrong", row(y), "2 3 4 ");
    }

    private static void promise38Wrong() {
        PostHouse x = sorting(3, 2, 1);
        x.machine(3, 1, 1, 4000);
        Check.due("38: before any", x.wrong(0), Town.NONE);
        x.sort(0);
        Check.due("38: number -1", x.wrong(-1), Town.NONE);
        Check.due("38: number 0", x.wrong(0), 1);
        Check.due("38: number 1", x.wrong(1), 2);
        Check.due("38: number 2 of two", x.wrong(2), Town.NONE);
        Check.due("38: far away", x.wrong(Integer.MAX_VALUE) + x.wrong(Integer.MIN_VALUE), -2);
        x.lose(1);
        Check.due("38: what was wrong then is told still", wrong(x), "1 2 ");
    }

    private static void promise38Latest() {
        PostHouse x = sorting(3, 2, 1, 5, 6);
        x.machine(2, 1, 1, 4000);
        x.sort(0);
        Check.due("37: three passes", x.passes(), 3);
        Check.due("36: refused", x.sort(0), Town.STATE);
        Check.due("37: the latest that was not", x.passes(), 3);
        Check.due("38: the latest that was not", wrong(x), "1 2 3 4 ");
        x.round(0, 0, 0);
        x.sort(1);
        Check.due("37: the latest had no items", x.passes(), 0);
        Check.due("38: none is wrong", wrong(x), "");
    }

    private static void promise39Row() {
        PostHouse x = sorting(3, 2);
        Check.due("39: round -1", x.row(-1, 0), Town.UNKNOWN);
        Check.due("39: round 1 of one", x.row(1, 0), Town.UNKNOWN);
        Check.due("39: UNKNOWN before NONE", x.row(1, -1), Town.UNKNOWN);
        Check.due("39: before any sort", x.row(0, 0), Town.NONE);
        x.sort(0);
        Check.due("39: number -1", x.row(0, -1), Town.NONE);
        Check.due("39: both", x.row(0, 0) * 10 + x.row(0, 1), 10);
        Check.due("39: number 2 of two", x.row(0, 2), Town.NONE);
        Check.due("39: far away", x.row(0, Integer.MAX_VALUE) + x.row(0, Integer.MIN_VALUE), -2);
    }

    private static void promise40Out() {
        new Refusals("40", () -> {
            PostHouse x = sorting(3);
            x.round(0, 0, 0);
            x.sort(0);
            return x;
        })
            .due(Town.UNKNOWN, "round -1", x -> x.out(-1))
            .due(Town.UNKNOWN, "round 2 of two", x -> x.out(2))
            .due(Town.STATE, "its row is empty", x -> x.out(1))
            .changedNothing();
        PostHouse x = sorting(3);
        Check.due("40: nothing was sorted", x.out(0), Town.STATE);
        x.sort(0);
        Check.due("40: one", x.out(0), 1);
        Check.due("27: OUT", x.about(0, 0), 4);
        Check.due("39: the row is empty", x.row(0, 0), Town.NONE);
        Check.due("40: it is empty", x.out(0), Town.STATE);
    }

    private static void promise40Order() {
        PostHouse x = sorting(9, 2, 4, 2);
        x.sort(0);
        x.wish(4, 4, true);
        Check.due("40: four", x.out(0), 4);
        Check.due("40: in the row's order", x.notice(0, 1) * 1000 + x.notice(1, 1) * 100 + x.notice(2, 1) * 10 + x.notice(3, 1), 1320);
        PostHouse y = sorting(9, 2, 4, 2);
        y.wish(4, 3, true);
        y.sort(0);
        Check.due("36: SORTED in the row's order", y.notice(0, 1) * 1000 + y.notice(1, 1) * 100 + y.notice(2, 1) * 10 + y.notice(3, 1), 1320);
    }

    private static void promise40LostFromTheRow() {
        PostHouse x = sorting(9, 2, 4, 2);
        x.sort(0);
        x.lose(2);
        Check.due("39: without it", row(x), "1 3 0 ");
        Check.due("40: the others", x.out(0), 3);
        Check.due("27: it is LOST still", x.about(2, 0), 8);
        Check.due("76: audit", x.audit(), 0);
    }
}
