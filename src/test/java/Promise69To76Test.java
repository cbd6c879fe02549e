import java.util.Random;

/** Promises 69 to 76, edge by edge: devices, scans, traces, wishes, notices, the clock, the audit. */
public final class Promise69To76Test {
    public static void main(String[] args) {
        promise69Refusals();
        promise69Device();
        promise69OffsetsOfAll();
        promise70Refusals();
        promise70Edges();
        promise70WithTheOffset();
        promise71Refusals();
        promise71ByTimes();
        promise71ByTrying();
        promise71Places();
        promise71EveryState();
        promise72Refusals();
        promise72SomethingNew();
        promise73Refusals();
        promise73Notices();
        promise73EverySort();
        promise73ScansMakeNone();
        promise74Refusals();
        promise74Tick();
        promise74DaysBegin();
        promise74OrderOfADay();
        promise75Now();
        promise76Audit();
        Check.finish();
    }

    private static PostHouse town() {
        PostHouse x = Town.built(0);
        x.item(0, 10, 0, 4, 1, 0);
        return x;
    }

    private static void promise69Refusals() {
        new Refusals("69", Promise69To76Test::town)
            .due(Town.UNKNOWN, "device -1", x -> x.device(-1, 0))
            .due(Town.UNKNOWN, "device 8", x -> x.device(8, 0))
            .due(Town.UNKNOWN, "UNKNOWN before OUTSIDE", x -> x.device(8, -1))
            .due(Town.OUTSIDE, "told -1", x -> x.device(0, -1))
            .due(Town.OUTSIDE, "told 1000000001", x -> x.device(0, 1000000001))
            .changedNothing();
    }

    private static void promise69Device() {
        PostHouse x = town();
        Check.due("69: told 0 at 0", x.device(0, 0), 0);
        Check.due("69: told the most at 0", x.device(7, 1000000000), -1000000000);
        x.tick(300);
        Check.due("69: told before", x.device(1, 299), 1);
        Check.due("69: told now", x.device(1, 300), 0);
        Check.due("69: told later", x.device(1, 301), -1);
        Check.due("69: told the most", x.device(2, 1000000000), -999999700);
        int acts = x.count(16);
        Check.due("69: as a refusal's number", x.device(3, 402), Town.OUTSIDE);
        Check.due("10: but it is an act", x.count(16), acts + 1);
    }

    private static void promise69OffsetsOfAll() {
        PostHouse x = town();
        x.tick(100);
        for (int d = 0; d < 8; d++) Check.due("70: device " + d + " at first", x.scanned(d, 0, d, d * 10), 1);
        for (int d = 0; d < 8; d++) x.device(d, 10 * d);
        for (int d = 0; d < 8; d++) Check.due("70: device " + d + " by its offset", x.scanned(d, 0, d, 0), 1);
        Check.due("71: first at 10 d, then at 100 - 10 d", trace(x, 0), "0/-1/0 20/-1/0 21/-1/10 22/-1/20 23/-1/30 27/-1/30 24/-1/40 26/-1/40 25/-1/50 25/-1/50 "
            + "26/-1/60 24/-1/60 27/-1/70 23/-1/70 22/-1/80 21/-1/90 20/-1/100 ");
        PostHouse y = town();
        y.sync();
        y.device(3, 9);
        Disk.restart(y);
        y.tick(5);
        Check.due("6, 70: an offset that the log has not", y.scanned(3, 0, 0, 5) * 10 + y.trace(0, 1, 2), 15);
    }

    private static void promise70Refusals() {
        new Refusals("70", () -> {
            PostHouse x = town();
            x.tick(50);
            return x;
        })
            .due(Town.UNKNOWN, "device -1", x -> x.scanned(-1, 0, 0, 0))
            .due(Town.UNKNOWN, "device 8", x -> x.scanned(8, 0, 0, 0))
            .due(Town.UNKNOWN, "item -1", x -> x.scanned(0, -1, 0, 0))
            .due(Town.UNKNOWN, "item 1 of one", x -> x.scanned(0, 1, 0, 0))
            .due(Town.UNKNOWN, "UNKNOWN before OUTSIDE", x -> x.scanned(0, 1, 10, -1))
            .due(Town.UNKNOWN, "UNKNOWN before OUTSIDE", x -> x.scanned(8, 0, 10, -1))
            .due(Town.OUTSIDE, "kind -1", x -> x.scanned(0, 0, -1, 0))
            .due(Town.OUTSIDE, "kind 10", x -> x.scanned(0, 0, 10, 0))
            .due(Town.OUTSIDE, "t -1", x -> x.scanned(0, 0, 0, -1))
            .due(Town.OUTSIDE, "t 51, later than the clock", x -> x.scanned(0, 0, 0, 51))
            .due(Town.OUTSIDE, "t 1000000001", x -> x.scanned(0, 0, 0, 1000000001))
            .due(Town.OUTSIDE, "the greatest t", x -> x.scanned(0, 0, 0, Integer.MAX_VALUE))
            .changedNothing();
    }

    private static void promise70Edges() {
        PostHouse x = town();
        x.tick(50);
        Check.due("70: kind 0 at 0", x.scanned(0, 0, 0, 0), 1);
        Check.due("70: kind 9 now", x.scanned(7, 0, 9, 50), 1);
        Check.due("71: sorts 20 and 29", x.trace(0, 1, 0) * 100 + x.trace(0, 2, 0), 2029);
        Check.due("71: NONE as its place", x.trace(0, 1, 1) + x.trace(0, 2, 1), -2);
        x.lose(0);
        Check.due("70: also of what is LOST", x.scanned(0, 0, 1, 50), 1);
    }

    private static void promise70WithTheOffset() {
        PostHouse x = town();
        x.tick(1000);
        x.device(0, 900);
        Check.due("70: 100 later: now", x.scanned(0, 0, 0, 900), 1);
        Check.due("70: 100 later: later than the clock", x.scanned(0, 0, 0, 901), Town.OUTSIDE);
        Check.due("70: 100 later: the least", x.scanned(0, 0, 1, 0) * 1000 + x.trace(0, 1, 2), 1100);
        x.device(1, 5000);
        Check.due("70: 4000 before: at 0", x.scanned(1, 0, 2, 4000), 1);
        Check.due("70: 4000 before: below 0", x.scanned(1, 0, 2, 3999), Town.OUTSIDE);
        Check.due("70: 4000 before: now", x.scanned(1, 0, 3, 5000), 1);
        Check.due("70: 4000 before: later than the clock", x.scanned(1, 0, 3, 5001), Town.OUTSIDE);
        x.device(2, 1000000000);
        Check.due("70: the most: now", x.scanned(2, 0, 4, 1000000000), 1);
        Check.due("70: the most: below 0", x.scanned(2, 0, 4, 999998999), Town.OUTSIDE);
        Check.due("70: the most: at 0", x.scanned(2, 0, 4, 999999000), 1);
        Check.due("70: t is OUTSIDE, though with the offset it is not", x.scanned(2, 0, 4, 1000000001), Town.OUTSIDE);
        x.tick(1);
        Check.due("70: a minute later", x.scanned(0, 0, 5, 901), 1);
        x.device(3, 0);
        Check.due("70: t -1 is OUTSIDE, though with the offset it is not", x.scanned(3, 0, 6, -1), Town.OUTSIDE);
        Check.due("70: t 0 is not", x.scanned(3, 0, 6, 0), 1);
    }

    private static String trace(PostHouse x, int item) {
        StringBuilder b = new StringBuilder();
        for (int i = 0; x.trace(item, i, 0) != Town.NONE; i++) {
            b.append(x.trace(item, i, 0)).append('/').append(x.trace(item, i, 1)).append('/').append(x.trace(item, i, 2)).append(' ');
        }
        return b.toString();
    }

    private static void promise71Refusals() {
        new Refusals("71", Promise69To76Test::town)
            .due(Town.UNKNOWN, "item -1", x -> x.trace(-1, 0, 0))
            .due(Town.UNKNOWN, "item 1 of one", x -> x.trace(1, 0, 0))
            .due(Town.UNKNOWN, "UNKNOWN before OUTSIDE", x -> x.trace(1, 0, 3))
            .due(Town.OUTSIDE, "what -1", x -> x.trace(0, 0, -1))
            .due(Town.OUTSIDE, "what 3", x -> x.trace(0, 0, 3))
            .due(Town.OUTSIDE, "what 3 of no event", x -> x.trace(0, 9, 3))
            .due(Town.OUTSIDE, "what 3 of event -1", x -> x.trace(0, -1, 3))
            .due(Town.OUTSIDE, "what -1 of event -1", x -> x.trace(0, -1, -1))
            .due(Town.NONE, "event -1", x -> x.trace(0, -1, 0))
            .due(Town.NONE, "event 1 of one", x -> x.trace(0, 1, 0))
            .due(Town.NONE, "the greatest number", x -> x.trace(0, Integer.MAX_VALUE, 2))
            .due(Town.NONE, "the least number", x -> x.trace(0, Integer.MIN_VALUE, 1))
            .changedNothing();
    }

    private static void promise71ByTimes() {
        PostHouse x = Town.built(0);
        x.tick(10);
        int a = x.item(0, 10, 0, 4, 1, 0), b = x.item(0, 10, 0, 4, 1, 0);
        x.tick(40);
        x.post(a, 0);
        x.scanned(0, a, 1, 50);
        x.scanned(0, a, 2, 30);
        x.scanned(0, b, 3, 20);
        x.scanned(0, a, 4, 30);
        x.scanned(0, a, 5, 10);
        x.scanned(0, a, 6, 9);
        x.scanned(0, a, 7, 29);
        x.scanned(0, a, 8, 31);
        x.lose(a);
        Check.due("71: by times, then as they came", trace(x, a), "26/-1/9 0/-1/10 25/-1/10 27/-1/29 22/-1/30 24/-1/30 28/-1/31 1/0/50 21/-1/50 8/0/50 ");
        Check.due("71: of the item alone", trace(x, b), "0/-1/10 23/-1/20 ");
        Check.due("10: all events", x.count(13), 12);
    }

    private static void promise71ByTrying() {
        Random random = new Random(71);
        for (int run = 0; run < 10; run++) {
            PostHouse x = town();
            x.tick(12);
            int[][] events = new int[60][];
            events[0] = new int[] {0, 0};
            for (int k = 1; k < 60; k++) {
                events[k] = new int[] {20 + random.nextInt(10), random.nextInt(13)};
                x.scanned(random.nextInt(8), 0, events[k][0] - 20, events[k][1]);
            }
            java.util.Arrays.sort(events, java.util.Comparator.comparing((int[] e) -> e[1]));
            StringBuilder due = new StringBuilder();
            for (int[] e : events) due.append(e[0]).append("/-1/").append(e[1]).append(' ');
            Check.due("71: a trace", trace(x, 0), due.toString());
        }
    }

    private static void promise71Places() {
        PostHouse x = town();
        x.tick(5);
        x.address(0, 3);
        Check.due("71: told of no place", trace(x, 0), "0/-1/0 ");
        x.leg(0, 1, 20, 10, 1);
        x.bag(0, 1);
        x.post(0, 0);
        x.tick(1);
        x.into(0, 0);
        x.closeBag(0);
        x.tick(100);
        x.openBag(0);
        x.round(1, 0, 0);
        x.assign(3, 0);
        x.sort(0);
        x.tick(1);
        x.out(0);
        x.miss(0);
        Town.goOn(x, 7);
        x.sort(0);
        x.out(0);
        x.locker(1, 1);
        x.put(0, 0);
        x.openBox(0, Town.key(0));
        Check.due("71: the place where it is or was IN", trace(x, 0),
            "0/-1/0 1/0/5 2/0/6 1/1/106 3/1/106 4/1/107 6/1/107 1/1/10080 3/1/10187 4/1/10187 6/1/10187 5/1/10187 ");
        PostHouse y = town();
        y.lose(0);
        Check.due("71: LOST before it was IN", trace(y, 0), "0/-1/0 8/-1/0 ");
    }

    private static void promise71EveryState() {
        PostHouse x = States.house(0);
        String[] due = {"0 ", "0 1 ", "0 1 2 ", "0 1 3 ", "0 1 3 4 ", "0 1 3 4 5 ", "0 1 3 4 6 ", "0 1 3 4 1 3 4 7 ", "0 1 8 "};
        for (int item = 0; item < States.MANY; item++) {
            StringBuilder b = new StringBuilder();
            for (int i = 0; x.trace(item, i, 0) >= 0; i++) b.append(x.trace(item, i, 0)).append(' ');
            Check.due("71: sorts of item " + item, b.toString(), due[item]);
        }
    }

    private static void promise72Refusals() {
        new Refusals("72", Promise69To76Test::town)
            .due(Town.UNKNOWN, "account -1", x -> x.wish(-1, 0, true))
            .due(Town.UNKNOWN, "POST", x -> x.wish(0, 0, true))
            .due(Town.UNKNOWN, "ORDERS", x -> x.wish(3, 0, true))
            .due(Town.UNKNOWN, "account 5 of one", x -> x.wish(5, 0, true))
            .due(Town.UNKNOWN, "UNKNOWN before OUTSIDE", x -> x.wish(5, 9, true))
            .due(Town.OUTSIDE, "sort -1", x -> x.wish(4, -1, true))
            .due(Town.OUTSIDE, "sort 9", x -> x.wish(4, 9, true))
            .due(Town.OUTSIDE, "sort 20", x -> x.wish(4, 20, true))
            .due(Town.OUTSIDE, "sort 32", x -> x.wish(4, 32, false))
            .changedNothing();
    }

    private static void promise72SomethingNew() {
        PostHouse x = town();
        x.account(0);
        for (int sort = 0; sort <= 8; sort++) {
            Check.due("72: not yet " + sort, x.wish(4, sort, false), 0);
            Check.due("72: new " + sort, x.wish(4, sort, true), 1);
            Check.due("72: no more than that " + sort, x.wish(4, sort, true), 0);
            Check.due("72: of another account " + sort, x.wish(5, sort, true), 1);
        }
        for (int sort = 0; sort <= 8; sort++) {
            Check.due("72: wished still " + sort, x.wish(4, sort, true), 0);
            Check.due("72: no more " + sort, x.wish(4, sort, false), 1);
            Check.due("72: the other's " + sort, x.wish(5, sort, true), 0);
        }
        Check.due("72: each is an act", x.count(16), 4 + 9 * 7);
        x.sync();
        Disk.restart(x);
        Check.due("6, 72: wishes are done again", x.wish(5, 8, true) * 10 + x.wish(4, 8, true), 1);
    }

    private static void promise73Refusals() {
        new Refusals("73", () -> {
            PostHouse x = Town.built(0);
            x.wish(4, 0, true);
            x.item(0, 10, 0, 4, 1, 0);
            return x;
        })
            .due(Town.OUTSIDE, "what -1", x -> x.notice(0, -1))
            .due(Town.OUTSIDE, "what 4", x -> x.notice(0, 4))
            .due(Town.OUTSIDE, "what 4 of none such", x -> x.notice(9, 4))
            .due(Town.OUTSIDE, "what -1 of notice -1", x -> x.notice(-1, -1))
            .due(Town.NONE, "notice -1", x -> x.notice(-1, 0))
            .due(Town.NONE, "notice 1 of one", x -> x.notice(1, 0))
            .due(Town.NONE, "the greatest number", x -> x.notice(Integer.MAX_VALUE, 3))
            .changedNothing();
    }

    private static String notice(PostHouse x, int i) {
        return x.notice(i, 0) + " " + x.notice(i, 1) + " " + x.notice(i, 2) + " " + x.notice(i, 3);
    }

    private static void promise73Notices() {
        PostHouse x = Town.built(0);
        x.account(0);
        x.wish(4, 0, true);
        x.wish(5, 1, true);
        x.tick(3);
        x.item(0, 10, 0, 5, 1, 0);
        x.item(0, 10, 0, 4, 1, 0);
        x.tick(4);
        x.post(1, 0);
        x.post(0, 1);
        x.wish(4, 8, true);
        x.wish(4, 0, false);
        x.item(0, 10, 0, 4, 1, 0);
        x.lose(0);
        x.lose(2);
        Check.due("10: three notices", x.count(14), 3);
        Check.due("73: told, account 4", notice(x, 0), "4 1 0 3");
        Check.due("73: IN, account 5", notice(x, 1), "5 0 1 7");
        Check.due("73: LOST, account 4", notice(x, 2), "4 2 8 7");
        Check.due("73: no more", notice(x, 3), "-1 -1 -1 -1");
    }

    private static void promise73EverySort() {
        for (int sort = 0; sort <= 8; sort++) {
            PostHouse x = Town.built(0);
            x.account(0);
            x.wish(4, sort, true);
            x.round(0, 0, 0);
            x.assign(0, 0);
            x.bag(0, 1);
            int back = x.item(0, 10, 0, 5, 1, 0);
            int item = x.item(0, 10, 0, 4, 1, 0);
            x.address(item, 0);
            x.post(item, 0);
            x.sort(0);
            x.out(0);
            x.miss(item);
            x.refuse(item);
            x.into(0, item);
            int other = x.item(0, 10, 0, 4, 1, 0);
            x.address(other, 0);
            x.post(other, 0);
            x.sort(0);
            x.out(0);
            x.hand(other, 1, 1, 0);
            x.lose(item);
            x.lose(back);
            int[] due = {2, 3, 1, 2, 2, 1, 1, 0, 1};
            Check.due("73: notices of sort " + sort, x.count(14), due[sort]);
            for (int i = 0; i < x.count(14); i++) Check.due("73: its sort", x.notice(i, 2), sort);
        }
        PostHouse x = States.house(0);
        x.wish(4, 7, true);
        x.wish(5, 7, true);
        x.sync();
        Check.due("73: what came before the wish made none", x.count(14), 0);
    }

    private static void promise73ScansMakeNone() {
        PostHouse x = town();
        for (int sort = 0; sort <= 8; sort++) x.wish(4, sort, true);
        for (int kind = 0; kind <= 9; kind++) x.scanned(0, 0, kind, 0);
        Check.due("73: scans make none", x.count(14), 0);
        Check.due("10: but they are events", x.count(13), 11);
        x.tick(1);
        x.lose(0);
        Check.due("73: one", x.count(14), 1);
    }

    private static void promise74Refusals() {
        new Refusals("74", Promise69To76Test::town)
            .due(Town.OUTSIDE, "0 minutes", x -> x.tick(0))
            .due(Town.OUTSIDE, "-1 minutes", x -> x.tick(-1))
            .due(Town.OUTSIDE, "1441 minutes", x -> x.tick(1441))
            .due(Town.OUTSIDE, "the greatest number", x -> x.tick(Integer.MAX_VALUE))
            .due(Town.OUTSIDE, "the least number", x -> x.tick(Integer.MIN_VALUE))
            .changedNothing();
    }

    private static void promise74Tick() {
        PostHouse x = new PostHouse();
        Check.due("74: one minute", x.tick(1), 1);
        Check.due("74: a day", x.tick(1440), 1441);
        Check.due("75: now", x.now(), 1441);
    }

    private static void promise74DaysBegin() {
        for (int way = 0; way < 3; way++) {
            PostHouse x = Town.built(0);
            x.locker(0, 1);
            for (int k = 0; k < 3; k++) x.openBox(0, 1);
            if (way == 0) x.tick(1439);
            if (way == 1) for (int k = 0; k < 3; k++) x.tick(k == 0 ? 1437 : 1);
            if (way == 2) x.tick(1438);
            if (way == 2) x.tick(1);
            Check.due("54: before the day begins", x.openBox(0, 1), Town.BARRED);
            x.tick(way == 1 ? 1440 : 1);
            Check.due("74: a day began", x.openBox(0, 1), Town.NONE);
        }
    }

    /** As a day begins items go back, then orders are given back, lockers are BARRED no more, bags arrive, lines leave. */
    private static void promise74OrderOfADay() {
        PostHouse x = Town.built(500);
        x.order(4, 5, 100);
        Town.goOn(x, 23);
        x.leg(1, 0, 1439, 1, 1);
        x.leg(0, 1, 0, 10, 1);
        x.bag(1, 0);
        x.bag(0, 1);
        x.closeBag(0);
        x.closeBag(1);
        int a = Town.posted(x, 0, 0, 1, 0);
        Town.bringOut(x, a);
        x.miss(a);
        Town.goOn(x, 6);
        x.tick(1439);
        Check.due("65: a minute before", x.orderAt(0, 0) * 10 + x.about(a, 0), 6);
        x.tick(1);
        Check.due("75: day 30", x.now(), 30 * 1440);
        Check.due("65: given back, and IN again", x.orderAt(0, 0) * 10 + x.about(a, 0), 21);
        Check.due("47: a bag that left at 1439 arrived at midnight of day 24", x.bagAt(0, 0) * 10 + x.bagAt(0, 1), 10);
        Check.due("47: a line that leaves at 0", x.bagAt(1, 0) * 10 + x.bagAt(1, 1), 11);
        x.bag(0, 1);
        x.closeBag(2);
        x.tick(1440);
        Check.due("47: it leaves as the day begins", x.bagAt(2, 5), 31 * 1440 + 10);
    }

    private static void promise75Now() {
        PostHouse x = new PostHouse();
        Check.due("75: 0", x.now(), 0);
        for (int k = 0; k < 400; k++) x.tick(1440);
        Check.due("75: 400 days", x.now(), 576000);
        x.cut(0, 0);
        x.sync();
        Check.due("75: DOWN", x.now(), Town.DOWN);
        x.start();
        Check.due("75: nothing was written", x.now(), 0);
    }

    private static void promise76Audit() {
        Check.due("76: an empty house", new PostHouse().audit(), 0);
        PostHouse x = new PostHouse();
        for (Tour.Act act : Tour.acts()) {
            act.step.on(x);
            Check.due("76: behind act " + act.record[0], x.audit(), 0);
        }
        Check.due("76: an item in each state", States.house(3).audit(), 0);
        x.cut(0, 0);
        x.sync();
        Check.due("76: DOWN", x.audit(), Town.DOWN);
    }
}
