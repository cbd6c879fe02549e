import java.util.Random;

/** Promises 41 to 48, edge by edge: lines, bags, ways. */
public final class Promise41To48Test {
    public static void main(String[] args) {
        promise41Refusals();
        promise41Taken();
        promise41Room();
        promise41FirstNext();
        promise42Refusals();
        promise42Late();
        promise42LaterThanADay();
        promise43Refusals();
        promise43Room();
        promise44Refusals();
        promise44States();
        promise44BagsThatAreNotOpen();
        promise44GoalPlaces();
        promise44Room();
        promise45CloseBag();
        promise46OpenBag();
        promise46Order();
        promise47Refusals();
        promise47FromStateToState();
        promise47LeavesByTheMinute();
        promise47Space();
        promise47SpaceOfWhatIsCarried();
        promise47ArrivesBeforeLinesLeave();
        promise47LinesOfOneMinute();
        promise47LooksJustBefore();
        promise47TheWayAlone();
        promise48Refusals();
        promise48SamePlace();
        promise48Leavings();
        promise48Late();
        promise48AsLong();
        promise48ByTrying();
        promise48MinuteByMinute();
        Check.finish();
    }

    private static final String FOUR = "P1,A;P2,B;P3,C;P4,D;S1,A,0,0,0;R1,A,0,1,9;H1,A,1;H1,A,2;S2,B,0,0,0;R2,B,0,1,9;H2,B,1;S3,C,0,0,0;R3,C,0,1,9;H3,C,1;";

    /** Places 0 .. 3; points 0 and 1 in place 0, 2 in place 1, 3 in place 2; account 4 has its home at point 0. */
    private static PostHouse four() {
        PostHouse x = new PostHouse();
        Town.book(x, FOUR);
        x.account(0);
        return x;
    }

    private static int posted(PostHouse x, int point, int place) {
        int item = x.item(0, 10, 0, 4, 1, 0);
        if (point >= 0) x.address(item, point);
        x.post(item, place);
        return item;
    }

    private static String bag(PostHouse x, int bag) {
        StringBuilder b = new StringBuilder();
        for (int what = 0; what <= 5; what++) b.append(x.bagAt(bag, what)).append(' ');
        return b.toString();
    }

    private static void promise41Refusals() {
        new Refusals("41", Promise41To48Test::four)
            .due(Town.UNKNOWN, "from -1", x -> x.leg(-1, 0, 0, 1, 1))
            .due(Town.UNKNOWN, "from 4 of four", x -> x.leg(4, 0, 0, 1, 1))
            .due(Town.UNKNOWN, "to -1", x -> x.leg(0, -1, 0, 1, 1))
            .due(Town.UNKNOWN, "to 4 of four", x -> x.leg(0, 4, 0, 1, 1))
            .due(Town.UNKNOWN, "UNKNOWN before OUTSIDE", x -> x.leg(4, 4, 1440, 0, 0))
            .due(Town.OUTSIDE, "both are one", x -> x.leg(2, 2, 0, 1, 1))
            .due(Town.OUTSIDE, "leaves -1", x -> x.leg(0, 1, -1, 1, 1))
            .due(Town.OUTSIDE, "leaves 1440", x -> x.leg(0, 1, 1440, 1, 1))
            .due(Town.OUTSIDE, "takes 0", x -> x.leg(0, 1, 0, 0, 1))
            .due(Town.OUTSIDE, "takes 3001", x -> x.leg(0, 1, 0, 3001, 1))
            .due(Town.OUTSIDE, "space 0", x -> x.leg(0, 1, 0, 1, 0))
            .due(Town.OUTSIDE, "space 21", x -> x.leg(0, 1, 0, 1, 21))
            .changedNothing();
    }

    private static void promise41Taken() {
        int[][] taken = {{0, 1, 0, 1, 1}, {3, 2, 0, 1, 1}, {0, 1, 1439, 1, 1}, {0, 1, 0, 3000, 1}, {0, 1, 0, 1, 20}};
        for (int[] t : taken) {
            PostHouse x = four();
            Check.due("41: an edge", x.leg(t[0], t[1], t[2], t[3], t[4]), 0);
            Check.due("48: reached by it", x.way(t[0], t[1], 0), (t[2] == 0 ? 1440 : t[2]) + t[3]);
        }
    }

    private static PostHouse lines(int many) {
        PostHouse x = four();
        for (int k = 0; k < many; k++) Check.due("41: its number", x.leg(0, 1, 100, 50, 1), k);
        return x;
    }

    private static void promise41Room() {
        new Refusals("41", () -> lines(20))
            .due(Town.ROOM, "the 21st", x -> x.leg(0, 1, 0, 1, 1))
            .due(Town.UNKNOWN, "UNKNOWN before ROOM", x -> x.leg(0, 4, 0, 1, 1))
            .due(Town.OUTSIDE, "OUTSIDE before ROOM", x -> x.leg(0, 0, 0, 1, 1))
            .changedNothing();
        PostHouse x = lines(20);
        Check.due("42: the last one", x.late(19, 1), 1);
        Check.due("42: no more", x.late(20, 1), Town.UNKNOWN);
    }

    private static void promise41FirstNext() {
        int[][] due = {{0, 0, 1440}, {0, 1, 1}, {0, 1439, 1439}, {77, 77, 1517}, {77, 78, 78}, {77, 76, 1516}, {1439, 1439, 2879}, {1439, 0, 1440}, {1440, 0, 2880}, {1440, 1439, 2879},
            {1440, 1, 1441}};
        for (int[] d : due) {
            PostHouse x = four();
            if (d[0] > 0) x.tick(d[0]);
            x.leg(0, 1, d[1], 5, 1);
            Check.due("41: at " + d[0] + " for minute " + d[1], x.way(0, 1, 0) - 5, d[2]);
        }
    }

    private static void promise42Refusals() {
        new Refusals("42", () -> lines(2))
            .due(Town.UNKNOWN, "line -1", x -> x.late(-1, 1))
            .due(Town.UNKNOWN, "line 2 of two", x -> x.late(2, 1))
            .due(Town.UNKNOWN, "UNKNOWN before OUTSIDE", x -> x.late(2, 0))
            .due(Town.OUTSIDE, "by 0", x -> x.late(0, 0))
            .due(Town.OUTSIDE, "by -1", x -> x.late(0, -1))
            .due(Town.OUTSIDE, "by 601", x -> x.late(0, 601))
            .changedNothing();
    }

    private static void promise42Late() {
        PostHouse x = lines(2);
        x.leg(0, 1, 100, 50, 1);
        Check.due("42: by 1", x.late(0, 1), 1);
        Check.due("42: by 600 more", x.late(0, 600), 601);
        Check.due("42: another line", x.late(1, 600), 600);
        Check.due("48: by line 2", x.way(0, 1, 0) * 10 + x.way(0, 1, 1), 1502);
        x.bag(0, 1);
        x.closeBag(0);
        PostHouse y = four();
        y.leg(0, 1, 100, 50, 1);
        y.bag(0, 1);
        y.closeBag(0);
        y.late(0, 300);
        y.late(0, 7);
        y.tick(406);
        Check.due("47: it did not leave at its minute", bag(y, 0), "1 0 1 0 -1 -1 ");
        Check.due("42: nor since", y.late(0, 1), 308);
        y.tick(1);
        Check.due("47: a minute more", bag(y, 0), "1 0 1 0 -1 -1 ");
        y.tick(1);
        Check.due("47: it left late", bag(y, 0), "2 -1 1 0 0 458 ");
        Check.due("42: since it left last", y.late(0, 5), 5);
        Check.due("48: its NEXT", y.way(0, 1, 0), 1440 + 100 + 5 + 50);
    }

    private static void promise42LaterThanADay() {
        PostHouse x = four();
        x.leg(0, 1, 1400, 50, 1);
        for (int k = 1; k <= 5; k++) Check.due("42: all that was told", x.late(0, 600), 600 * k);
        Check.due("48: at 4400", x.way(0, 1, 0), 4450);
        x.bag(0, 1);
        x.closeBag(0);
        Town.goOn(x, 3);
        x.tick(79);
        Check.due("47: at 4399 it waits", x.bagAt(0, 0), 1);
        x.tick(1);
        Check.due("47: at 4400 it leaves", bag(x, 0), "2 -1 1 0 0 4450 ");
        Check.due("48: then at its minute, 5720", x.way(0, 1, 0), 5770);
        PostHouse y = four();
        y.leg(0, 1, 1400, 50, 1);
        for (int k = 0; k < 4; k++) y.late(0, 10);
        y.tick(1440);
        Check.due("48: it left on the next day, before its minute there", y.way(0, 1, 0), 1440 + 1450);
    }

    private static void promise43Refusals() {
        new Refusals("43", Promise41To48Test::four)
            .due(Town.UNKNOWN, "place -1", x -> x.bag(-1, 0))
            .due(Town.UNKNOWN, "place 4 of four", x -> x.bag(4, 0))
            .due(Town.UNKNOWN, "to -1", x -> x.bag(0, -1))
            .due(Town.UNKNOWN, "to 4 of four", x -> x.bag(0, 4))
            .due(Town.UNKNOWN, "UNKNOWN before OUTSIDE", x -> x.bag(4, 4))
            .due(Town.OUTSIDE, "both are one", x -> x.bag(0, 0))
            .changedNothing();
        PostHouse x = four();
        Check.due("43: its number", x.bag(3, 0), 0);
        Check.due("47: OPEN", bag(x, 0), "0 3 0 0 -1 -1 ");
    }

    private static PostHouse bags(int many) {
        PostHouse x = four();
        for (int k = 0; k < many; k++) Check.due("43: its number", x.bag(0, 1), k);
        return x;
    }

    private static void promise43Room() {
        PostHouse x = bags(80);
        Check.due("43: the 81st", x.bag(0, 1), Town.ROOM);
        Check.due("43: UNKNOWN before ROOM", x.bag(0, 4), Town.UNKNOWN);
        Check.due("43: OUTSIDE before ROOM", x.bag(0, 0), Town.OUTSIDE);
        Check.due("10: eighty", x.count(8), 80);
        Check.due("45: the last one", x.closeBag(79), 0);
        Check.due("45: no more", x.closeBag(80), Town.UNKNOWN);
        Check.due("43: CLOSED ones are bags still", x.bag(0, 1), Town.ROOM);
    }

    private static PostHouse filled() {
        PostHouse x = four();
        x.bag(0, 1);
        x.bag(0, 1);
        x.closeBag(1);
        posted(x, 2, 0);
        posted(x, -1, 0);
        posted(x, 2, 2);
        posted(x, 3, 0);
        posted(x, 0, 0);
        x.address(x.item(0, 10, 0, 4, 1, 0), 2);
        return x;
    }

    private static void promise44Refusals() {
        new Refusals("44", Promise41To48Test::filled)
            .due(Town.UNKNOWN, "bag -1", x -> x.into(-1, 0))
            .due(Town.UNKNOWN, "bag 2 of two", x -> x.into(2, 0))
            .due(Town.UNKNOWN, "item -1", x -> x.into(0, -1))
            .due(Town.UNKNOWN, "item 6 of six", x -> x.into(0, 6))
            .due(Town.UNKNOWN, "UNKNOWN before STATE", x -> x.into(1, 6))
            .due(Town.STATE, "the bag is CLOSED", x -> x.into(1, 0))
            .due(Town.STATE, "no address", x -> x.into(0, 1))
            .due(Town.STATE, "at another place", x -> x.into(0, 2))
            .due(Town.STATE, "for another place", x -> x.into(0, 3))
            .due(Town.STATE, "for its own place", x -> x.into(0, 4))
            .due(Town.STATE, "TOLD", x -> x.into(0, 5))
            .changedNothing();
        PostHouse x = filled();
        Check.due("44: how many are in it", x.into(0, 0), 1);
        Check.due("27: BAGGED, in it", x.about(0, 0) * 10 + x.about(0, 9), 20);
        Check.due("44: BAGGED", x.into(0, 0), Town.STATE);
        Check.due("44: another one", x.into(0, posted(x, 2, 0)), 2);
        x.bag(1, 0);
        Check.due("44: no address, into a bag for place 0", x.into(2, posted(x, -1, 1)), Town.STATE);
    }

    private static void promise44States() {
        for (int state = 0; state < States.MANY; state++) {
            PostHouse x = States.house(0);
            x.bag(0, 1);
            if (state == States.TOLD) x.address(state, 3);
            // So all have their goal in place 1, but for the one that is GOING BACK.
            x.forward(0, 0, 3, 9);
            x.forward(2, 0, 3, 9);
            Check.due("44: in state " + state, x.into(1, state), state == States.IN ? 1 : Town.STATE);
        }
    }

    private static void promise44BagsThatAreNotOpen() {
        PostHouse x = four();
        x.leg(0, 1, 100, 50, 1);
        x.bag(0, 1);
        int item = posted(x, 2, 0);
        x.closeBag(0);
        Check.due("44: CLOSED", x.into(0, item), Town.STATE);
        x.tick(100);
        Check.due("44: on a line", x.into(0, item), Town.STATE);
        x.tick(50);
        int there = posted(x, 2, 1);
        Check.due("44: at its end", x.into(0, there), Town.STATE);
        x.openBag(0);
        Check.due("44: EMPTIED", x.into(0, there), Town.STATE);
    }

    private static void promise44GoalPlaces() {
        PostHouse x = four();
        x.bag(0, 1);
        x.bag(0, 2);
        x.forward(1, 0, 2, 9);
        Check.due("44: forwarded to place 1", x.into(1, posted(x, 1, 0)), Town.STATE);
        Check.due("44: so it goes there", x.into(0, posted(x, 1, 0)), 1);
        x.hold(2, 0, 1);
        Check.due("44: HELD: the place of the last point", x.into(0, posted(x, 1, 0)), 2);
        x.forward(2, 0, 3, 1);
        x.forward(3, 0, 2, 1);
        Check.due("44: RING: not the place of the ring's other point", x.into(0, posted(x, 1, 0)), Town.STATE);
        Check.due("44: but that of the last point", x.into(1, posted(x, 1, 0)), 1);
        int later = posted(x, 1, 0);
        x.tick(1440);
        Check.due("44: its goal today", x.into(0, later), 3);
        PostHouse y = four();
        y.account(2);
        y.bag(0, 1);
        int item = y.item(0, 10, 0, 5, 1, 0);
        y.address(item, 0);
        y.post(item, 0);
        Check.due("44: for its own place", y.into(0, item), Town.STATE);
        Town.bringOut(y, item);
        y.refuse(item);
        Check.due("44: GOING BACK to the home in place 1", y.into(0, item), 1);
    }

    private static void promise44Room() {
        PostHouse x = four();
        x.bag(0, 1);
        for (int k = 1; k <= 40; k++) Check.due("44: how many", x.into(0, posted(x, 2, 0)), k);
        int more = posted(x, 2, 0);
        Check.due("44: the 41st", x.into(0, more), Town.ROOM);
        Check.due("27: it is IN still", x.about(more, 0) * 10 + x.about(more, 9), 9);
        Check.due("44: STATE before ROOM", x.into(0, 0), Town.STATE);
        Check.due("44: UNKNOWN before ROOM", x.into(0, 99), Town.UNKNOWN);
        x.lose(7);
        Check.due("47: one less", x.bagAt(0, 3), 39);
        Check.due("44: it has room again", x.into(0, more), 40);
        Check.due("45: how many", x.closeBag(0), 40);
        Check.due("76: audit", x.audit(), 0);
    }

    private static void promise45CloseBag() {
        new Refusals("45", Promise41To48Test::filled)
            .due(Town.UNKNOWN, "bag -1", x -> x.closeBag(-1))
            .due(Town.UNKNOWN, "bag 2 of two", x -> x.closeBag(2))
            .due(Town.STATE, "it is CLOSED", x -> x.closeBag(1))
            .changedNothing();
        PostHouse x = filled();
        x.into(0, 0);
        Check.due("45: one item", x.closeBag(0), 1);
        Check.due("47: CLOSED", bag(x, 0), "1 0 1 1 -1 -1 ");
        x.leg(0, 1, 10, 50, 2);
        x.tick(10);
        Check.due("45: on a line", x.closeBag(0), Town.STATE);
        x.tick(50);
        Check.due("45: at its end", x.closeBag(0), Town.STATE);
        x.openBag(0);
        Check.due("45: EMPTIED", x.closeBag(0), Town.STATE);
        x.bag(0, 1);
        Check.due("45: an empty one", x.closeBag(2), 0);
    }

    private static PostHouse onTheWay() {
        PostHouse x = filled();
        x.into(0, 0);
        x.leg(0, 2, 10, 5, 2);
        x.leg(2, 1, 100, 5, 2);
        x.closeBag(0);
        x.bag(0, 1);
        x.tick(20);
        x.bag(0, 3);
        x.closeBag(3);
        return x;
    }

    private static void promise46OpenBag() {
        new Refusals("46", Promise41To48Test::onTheWay)
            .due(Town.UNKNOWN, "bag -1", x -> x.openBag(-1))
            .due(Town.UNKNOWN, "bag 4 of four", x -> x.openBag(4))
            .due(Town.STATE, "it waits on its way", x -> x.openBag(0))
            .due(Town.STATE, "it is OPEN", x -> x.openBag(2))
            .due(Town.STATE, "it waits where it was made", x -> x.openBag(3))
            .changedNothing();
        PostHouse x = onTheWay();
        Check.due("47: it waits on its way", bag(x, 0), "1 2 1 1 -1 -1 ");
        x.tick(82);
        Check.due("46: on a line", x.openBag(0), Town.STATE);
        x.tick(3);
        Check.due("47: it waits at its end", bag(x, 0), "1 1 1 1 -1 -1 ");
        Check.due("46: one item", x.openBag(0), 1);
        Check.due("47: EMPTIED", bag(x, 0), "3 1 1 0 -1 -1 ");
        Check.due("27: IN there", x.about(0, 0) * 100 + x.about(0, 8) * 10 + x.about(0, 9), 109);
        Check.due("46: EMPTIED", x.openBag(0), Town.STATE);
        Check.due("46: without items", x.openBag(1), 0);
        Check.due("47: EMPTIED", x.bagAt(1, 0), 3);
    }

    private static void promise46Order() {
        PostHouse x = four();
        x.leg(0, 1, 10, 5, 2);
        x.bag(0, 1);
        for (int k = 0; k < 5; k++) posted(x, 2, 0);
        for (int k : new int[] {3, 0, 4, 1, 2}) x.into(0, k);
        x.closeBag(0);
        x.lose(4);
        x.tick(15);
        x.wish(4, 1, true);
        Check.due("46: what is LOST is not in it", x.openBag(0), 4);
        Check.due("46: as they came into it", x.notice(0, 1) * 1000 + x.notice(1, 1) * 100 + x.notice(2, 1) * 10 + x.notice(3, 1), 3012);
        Check.due("27: LOST still", x.about(4, 0), 8);
    }

    private static void promise47Refusals() {
        new Refusals("47", Promise41To48Test::filled)
            .due(Town.UNKNOWN, "bag -1", x -> x.bagAt(-1, 0))
            .due(Town.UNKNOWN, "bag 2 of two", x -> x.bagAt(2, 0))
            .due(Town.UNKNOWN, "UNKNOWN before OUTSIDE", x -> x.bagAt(2, 6))
            .due(Town.OUTSIDE, "what -1", x -> x.bagAt(0, -1))
            .due(Town.OUTSIDE, "what 6", x -> x.bagAt(0, 6))
            .changedNothing();
    }

    private static void promise47FromStateToState() {
        PostHouse x = four();
        x.leg(0, 1, 1400, 3000, 1);
        x.bag(0, 1);
        Check.due("47: OPEN", bag(x, 0), "0 0 1 0 -1 -1 ");
        x.tick(1400);
        Check.due("47: an OPEN one stays", bag(x, 0), "0 0 1 0 -1 -1 ");
        x.closeBag(0);
        Check.due("47: closed in the minute in which the line left", bag(x, 0), "1 0 1 0 -1 -1 ");
        x.tick(1439);
        Check.due("47: it waits", bag(x, 0), "1 0 1 0 -1 -1 ");
        x.tick(1);
        Check.due("47: on its line", bag(x, 0), "2 -1 1 0 0 5840 ");
        Town.goOn(x, 2);
        x.tick(119);
        Check.due("47: a minute before it arrives", bag(x, 0), "2 -1 1 0 0 5840 ");
        x.tick(1);
        Check.due("47: arrived", bag(x, 0), "1 1 1 0 -1 -1 ");
        Town.goOn(x, 1);
        Check.due("47: it stays at its end", bag(x, 0), "1 1 1 0 -1 -1 ");
        x.openBag(0);
        Check.due("47: EMPTIED", bag(x, 0), "3 1 1 0 -1 -1 ");
    }

    private static void promise47LeavesByTheMinute() {
        for (int leaves : new int[] {0, 1, 700, 1439}) {
            PostHouse x = four();
            x.leg(0, 1, leaves, 1, 1);
            x.bag(0, 1);
            x.closeBag(0);
            int at = leaves == 0 ? 1440 : leaves;
            if (at > 1) x.tick(at - 1);
            Check.due("47: before minute " + leaves, bag(x, 0), "1 0 1 0 -1 -1 ");
            x.tick(1);
            Check.due("47: at minute " + leaves, bag(x, 0), "2 -1 1 0 0 " + (at + 1) + " ");
            x.tick(1);
            Check.due("47: a minute later", bag(x, 0), "1 1 1 0 -1 -1 ");
            x.bag(0, 1);
            x.closeBag(1);
            x.tick(1438);
            Check.due("47: before the next day's minute " + leaves, x.bagAt(1, 0), 1);
            x.tick(1);
            Check.due("47: at the next day's minute " + leaves, bag(x, 1), "2 -1 1 0 0 " + (at + 1441) + " ");
        }
    }

    private static void promise47Space() {
        for (int space : new int[] {1, 2, 19, 20}) {
            PostHouse x = four();
            x.leg(0, 1, 10, 5, space);
            for (int k = 0; k < 24; k++) x.bag(0, k == 1 ? 2 : 1);
            for (int k = 23; k >= 0; k--) if (k != 3) x.closeBag(k);
            x.tick(10);
            int taken = 0;
            for (int k = 0; k < 24; k++) {
                boolean due = k != 1 && k != 3 && taken < space;
                if (due) taken++;
                Check.due("47: space for " + space + ": bag " + k, x.bagAt(k, 0), due ? 2 : k == 3 ? 0 : 1);
            }
            Check.due("76: audit", x.audit(), 0);
        }
    }

    private static void promise47SpaceOfWhatIsCarried() {
        PostHouse x = four();
        x.leg(0, 1, 100, 2880, 3);
        for (int k = 0; k < 6; k++) x.bag(0, 1);
        x.closeBag(0);
        x.closeBag(1);
        x.tick(100);
        for (int k = 2; k < 6; k++) x.closeBag(k);
        x.tick(1440);
        Check.due("47: two are carried: space for one", x.bagAt(2, 0) * 10 + x.bagAt(3, 0), 21);
        x.tick(1440);
        Check.due("47: two arrived in this minute", x.bagAt(0, 1) * 10 + x.bagAt(1, 1), 11);
        Check.due("47: so there is space for two", x.bagAt(3, 0) * 100 + x.bagAt(4, 0) * 10 + x.bagAt(5, 0), 221);
        Check.due("76: audit", x.audit(), 0);
        x.tick(1440);
        Check.due("47: one arrived: space for one", x.bagAt(5, 0), 2);
        PostHouse y = four();
        y.leg(0, 1, 100, 2881, 1);
        for (int k = 0; k < 2; k++) y.bag(0, 1);
        y.closeBag(0);
        y.tick(100);
        y.closeBag(1);
        Town.goOn(y, 2);
        Check.due("47: it arrives a minute too late for that", y.bagAt(0, 0) * 10 + y.bagAt(1, 0), 21);
        y.tick(1);
        Check.due("47: then it is there", y.bagAt(0, 0) * 10 + y.bagAt(1, 0), 11);
    }

    private static void promise47ArrivesBeforeLinesLeave() {
        for (int early = 0; early <= 1; early++) {
            for (int first = 0; first <= 1; first++) {
                PostHouse x = four();
                if (first == 0) x.leg(0, 1, 100, 20, 1);
                x.leg(1, 2, 120 - early, 30, 1);
                if (first == 1) x.leg(0, 1, 100, 20, 1);
                x.bag(0, 2);
                x.closeBag(0);
                x.tick(120);
                Check.due("47: a line that leaves " + early + " before", x.bagAt(0, 0), early == 0 ? 2 : 1);
                x.tick(30);
                Check.due("47: where it is then", x.bagAt(0, 1), early == 0 ? 2 : 1);
                x.tick(1440);
                Check.due("47: a day later at its end", bag(x, 0), "1 2 2 0 -1 -1 ");
            }
        }
    }

    private static void promise47LinesOfOneMinute() {
        PostHouse x = four();
        for (int k = 0; k < 3; k++) x.leg(0, 1, 50, 10, 1);
        for (int k = 0; k < 4; k++) {
            x.bag(0, 1);
            x.closeBag(k);
        }
        x.tick(50);
        // When line 0 has left, line 1 is the first one of the soonest way, and so on.
        Check.due("47: each takes one", x.bagAt(0, 4) * 100 + x.bagAt(1, 4) * 10 + x.bagAt(2, 4), 12);
        Check.due("47: the fourth waits", x.bagAt(3, 0), 1);
        PostHouse y = four();
        y.leg(0, 1, 50, 20, 1);
        y.leg(0, 1, 50, 10, 1);
        for (int k = 0; k < 2; k++) {
            y.bag(0, 1);
            y.closeBag(k);
        }
        y.tick(50);
        Check.due("47: the slower one is not the first line of the way", y.bagAt(0, 4) * 10 + y.bagAt(1, 0), 11);
    }

    private static void promise47LooksJustBefore() {
        PostHouse x = four();
        x.leg(0, 2, 100, 500, 5);
        x.leg(0, 1, 100, 10, 1);
        x.leg(1, 2, 200, 10, 5);
        x.bag(0, 2);
        x.closeBag(0);
        x.late(1, 300);
        Check.due("48: line 1 is late, but sooner a day later: line 0", x.way(0, 2, 1), 0);
        x.tick(100);
        Check.due("47: line 0 takes it", x.bagAt(0, 4), 0);
        PostHouse y = four();
        y.leg(0, 2, 100, 500, 5);
        y.leg(0, 1, 100, 10, 1);
        y.leg(1, 2, 200, 10, 5);
        y.bag(0, 2);
        y.closeBag(0);
        y.tick(99);
        y.late(2, 600);
        Check.due("48: by line 2 it would be 810", y.way(0, 2, 0) * 10 + y.way(0, 2, 1), 6000);
        y.tick(1);
        Check.due("47: looked at then", y.bagAt(0, 4), 0);
    }

    private static void promise47TheWayAlone() {
        PostHouse x = four();
        x.leg(0, 1, 100, 10, 5);
        x.leg(0, 2, 90, 10, 5);
        x.bag(0, 3);
        x.bag(0, 1);
        x.bag(0, 2);
        x.bag(1, 0);
        for (int k = 0; k < 4; k++) x.closeBag(k);
        x.tick(100);
        Check.due("47: an end that is not reached", bag(x, 0), "1 0 3 0 -1 -1 ");
        Check.due("47: by line 0", bag(x, 1), "2 -1 1 0 0 110 ");
        Check.due("47: by line 1, arrived in this minute", bag(x, 2), "1 2 2 0 -1 -1 ");
        Check.due("47: no line from its place", bag(x, 3), "1 1 0 0 -1 -1 ");
    }

    private static void promise48Refusals() {
        new Refusals("48", Promise41To48Test::onTheWay)
            .due(Town.UNKNOWN, "from -1", x -> x.way(-1, 0, 0))
            .due(Town.UNKNOWN, "from 4 of four", x -> x.way(4, 0, 0))
            .due(Town.UNKNOWN, "to -1", x -> x.way(0, -1, 0))
            .due(Town.UNKNOWN, "to 4 of four", x -> x.way(0, 4, 0))
            .due(Town.UNKNOWN, "UNKNOWN before OUTSIDE", x -> x.way(0, 4, 2))
            .due(Town.OUTSIDE, "what -1", x -> x.way(0, 1, -1))
            .due(Town.OUTSIDE, "what 2", x -> x.way(0, 1, 2))
            .due(Town.OUTSIDE, "what 2 of the same place", x -> x.way(0, 0, 2))
            .due(Town.NONE, "it is not reached", x -> x.way(1, 0, 0))
            .due(Town.NONE, "it is not reached", x -> x.way(1, 0, 1))
            .changedNothing();
    }

    private static void promise48SamePlace() {
        PostHouse x = four();
        Check.due("48: at minute 0", x.way(2, 2, 0), 0);
        Check.due("48: no line", x.way(2, 2, 1), Town.NONE);
        x.leg(0, 1, 10, 5, 1);
        x.leg(1, 0, 20, 5, 1);
        x.tick(7);
        Check.due("48: now, whatever lines there are", x.way(0, 0, 0), 7);
        Check.due("48: no line", x.way(0, 0, 1), Town.NONE);
    }

    private static void promise48Leavings() {
        PostHouse x = four();
        x.tick(77);
        x.leg(0, 1, 77, 5, 1);
        Check.due("48: its minute is now: a day later", x.way(0, 1, 0), 1440 + 82);
        x.leg(0, 1, 78, 5, 1);
        Check.due("48: a minute later", x.way(0, 1, 0) * 10 + x.way(0, 1, 1), 831);
        x.leg(1, 2, 83, 10, 1);
        Check.due("48: not before it is reached: just then", x.way(0, 2, 0), 93);
        PostHouse y = four();
        y.tick(77);
        y.leg(0, 1, 78, 5, 1);
        y.leg(1, 2, 82, 10, 1);
        Check.due("48: a minute before it is reached: a day later", y.way(0, 2, 0), 1440 + 92);
        y.leg(2, 3, 0, 3000, 1);
        Check.due("48: three lines", y.way(0, 3, 0) * 10 + y.way(0, 3, 1), 58800);
        Check.due("48: from the second place on", y.way(1, 3, 0) * 10 + y.way(1, 3, 1), 44401);
        Check.due("48: no way back", y.way(3, 0, 0), Town.NONE);
    }

    private static void promise48Late() {
        PostHouse x = four();
        x.leg(0, 1, 100, 50, 1);
        x.leg(1, 2, 140, 10, 1);
        Check.due("48: it leaves before", x.way(0, 2, 0), 1440 + 150);
        x.late(1, 9);
        Check.due("48: late, but before", x.way(0, 2, 0), 1440 + 150);
        x.late(1, 1);
        Check.due("48: late: at the minute when it is reached", x.way(0, 2, 0), 160);
        x.late(1, 5);
        Check.due("48: later", x.way(0, 2, 0), 165);
        for (int k = 0; k < 3; k++) x.late(1, 600);
        Check.due("48: later than a day: that counts, not its minute before", x.way(0, 2, 0), 165 + 1800);
        x.late(0, 600);
        for (int k = 0; k < 3; k++) x.late(0, 500);
        Check.due("48: reached behind its NEXT: the first minute from then on", x.way(0, 2, 0), 2250 + (1580 + 1440 - 2250) + 10);
    }

    private static void promise48AsLong() {
        PostHouse x = four();
        x.leg(0, 2, 100, 10, 1);
        x.leg(0, 1, 100, 10, 1);
        x.leg(2, 3, 200, 5, 1);
        x.leg(1, 3, 200, 5, 1);
        Check.due("48: of places reached at one time that of the least number", x.way(0, 3, 0) * 10 + x.way(0, 3, 1), 2051);
        PostHouse y = four();
        y.leg(0, 1, 100, 10, 1);
        y.leg(0, 1, 90, 20, 1);
        Check.due("48: the line of the least number stays", y.way(0, 1, 0) * 10 + y.way(0, 1, 1), 1100);
        PostHouse z = four();
        z.leg(0, 1, 100, 10, 1);
        z.leg(1, 3, 200, 5, 1);
        z.leg(0, 3, 200, 5, 1);
        Check.due("48: what is looked at first stays", z.way(0, 3, 1), 2);
        PostHouse w = four();
        w.leg(0, 3, 200, 6, 1);
        w.leg(0, 1, 100, 10, 1);
        w.leg(1, 3, 200, 5, 1);
        Check.due("48: a minute sooner", w.way(0, 3, 0) * 10 + w.way(0, 3, 1), 2051);
    }

    /** The soonest that a bag could be at an end by any row of lines, each of them taken as it leaves first or later. */
    private static int soonest(int[][] lines, int from, int to, int time, int depth) {
        if (from == to) return time;
        if (depth == 0) return Integer.MAX_VALUE;
        int best = Integer.MAX_VALUE;
        for (int[] line : lines) {
            if (line[0] != from) continue;
            int leaving = line[4];
            while (leaving < time) leaving = leaving % 1440 == line[2] ? leaving + 1440 : leaving + 1;
            if (leaving != line[4]) for (leaving = time; leaving % 1440 != line[2]; leaving++) { }
            best = Math.min(best, soonest(lines, line[1], to, leaving + line[3], depth - 1));
        }
        return best;
    }

    private static void promise48ByTrying() {
        Random random = new Random(48);
        for (int run = 0; run < 60; run++) {
            PostHouse x = four();
            int now = random.nextInt(1440);
            if (now > 0) x.tick(now);
            int[][] lines = new int[6][];
            for (int k = 0; k < 6; k++) {
                int from = random.nextInt(4), to = (from + 1 + random.nextInt(3)) % 4;
                int leaves = random.nextInt(4) == 0 ? now : random.nextInt(1440);
                lines[k] = new int[] {from, to, leaves, 1 + random.nextInt(run % 2 == 0 ? 600 : 3000), now + 1};
                while (lines[k][4] % 1440 != leaves) lines[k][4]++;
                x.leg(from, to, leaves, lines[k][3], 1);
                for (int late = random.nextInt(4); late > 0; late--) {
                    int by = 1 + random.nextInt(600);
                    x.late(k, by);
                    lines[k][4] += by;
                }
            }
            for (int from = 0; from < 4; from++) {
                for (int to = 0; to < 4; to++) {
                    int due = soonest(lines, from, to, now, 4);
                    Check.due("48: the soonest way", x.way(from, to, 0), due == Integer.MAX_VALUE ? Town.NONE : due);
                    Check.due("48: it has a first line", x.way(from, to, 1) >= 0 ? 1 : 0, due == Integer.MAX_VALUE || from == to ? 0 : 1);
                }
            }
        }
    }

    /** The clock goes on minute by minute: many short ticks and few long ones come to the same. */
    private static void promise48MinuteByMinute() {
        PostHouse[] houses = {four(), four()};
        for (PostHouse x : houses) {
            x.leg(0, 1, 30, 70, 1);
            x.leg(1, 2, 100, 45, 2);
            x.leg(2, 3, 145, 1, 1);
            x.leg(0, 2, 0, 1445, 1);
            for (int k = 0; k < 6; k++) {
                x.bag(0, 3 - k % 2);
                x.closeBag(k);
            }
            x.late(1, 3);
        }
        for (int k = 0; k < 150; k++) houses[0].tick(1);
        houses[1].tick(150);
        for (int bag = 0; bag < 6; bag++) Check.due("74: after 150 minutes", bag(houses[0], bag), bag(houses[1], bag));
        for (int k = 0; k < 20; k++) houses[0].tick(144);
        for (int k = 0; k < 2; k++) houses[1].tick(1440);
        for (int bag = 0; bag < 6; bag++) Check.due("74: after two days more", bag(houses[0], bag), bag(houses[1], bag));
    }
}
