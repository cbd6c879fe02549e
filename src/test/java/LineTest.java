/** Promises 41 to 48: lines, bags and ways. */
public final class LineTest {
    public static void main(String[] args) {
        lineRefusals();
        lateness();
        bagRefusals();
        filling();
        journey();
        space();
        spaceStillTaken();
        twoLegs();
        looksJustBeforeItLeaves();
        ways();
        waysAsLong();
        goalPlaces();
        Check.finish();
    }

    private static final String FOUR = "P1,A;P2,B;P3,C;P4,D;S1,A,0,0,0;R1,A,0,1,9;H1,A,1;H1,A,2;S2,B,0,0,0;R2,B,0,1,9;H2,B,1;S3,C,0,0,0;R3,C,0,1,9;H3,C,1;";

    /** Places 0 .. 3 with points 0 and 1 in place 0, 2 in place 1, 3 in place 2. */
    private static PostHouse four() {
        PostHouse x = new PostHouse();
        Town.book(x, FOUR);
        x.account(0);
        return x;
    }

    private static void lineRefusals() {
        PostHouse x = four();
        Check.due("41: UNKNOWN", x.leg(4, 4, 9999, 0, 0) + x.leg(0, -1, 0, 1, 1) + x.leg(-1, 0, 0, 1, 1), 3 * Town.UNKNOWN);
        int[][] outside = {{1, 1, 0, 1, 1}, {0, 1, -1, 1, 1}, {0, 1, 1440, 1, 1}, {0, 1, 0, 0, 1}, {0, 1, 0, 3001, 1}, {0, 1, 0, 1, 0}, {0, 1, 0, 1, 21}};
        for (int[] a : outside) Check.due("41: OUTSIDE", x.leg(a[0], a[1], a[2], a[3], a[4]), Town.OUTSIDE);
        Check.due("41: its number", x.leg(0, 1, 1439, 3000, 20), 0);
        for (int k = 1; k < 20; k++) Check.due("41: its number", x.leg(0, 1, 0, 1, 1), k);
        Check.due("41: twenty lines", x.leg(0, 1, 0, 1, 1), Town.ROOM);
        Check.due("41: OUTSIDE is told first", x.leg(0, 0, 0, 1, 1), Town.OUTSIDE);
    }

    private static void lateness() {
        PostHouse x = four();
        x.leg(0, 1, 100, 10, 1);
        Check.due("42: UNKNOWN", x.late(1, 0) + x.late(-1, 1), 2 * Town.UNKNOWN);
        Check.due("42: OUTSIDE", x.late(0, 0) + x.late(0, 601), 2 * Town.OUTSIDE);
        Check.due("42: by how much", x.late(0, 600), 600);
        Check.due("42: all that was told", x.late(0, 1), 601);
        Check.due("48: it leaves at 701", x.way(0, 1, 0), 711);
        x.tick(701);
        Check.due("42: since it left last", x.late(0, 7), 7);
        Check.due("48: its minute of the next day", x.way(0, 1, 0), 1440 + 117);
        for (int k = 0; k < 4; k++) x.late(0, 600);
        Check.due("48: days later", x.way(0, 1, 0), 1440 + 117 + 2400);
        Town.goOn(x, 3);
        Check.due("48: after that as ever", x.way(0, 1, 0), 4 * 1440 + 110);
    }

    private static void bagRefusals() {
        PostHouse x = four();
        Check.due("43: UNKNOWN", x.bag(4, 4) + x.bag(0, 4) + x.bag(-1, 0), 3 * Town.UNKNOWN);
        Check.due("43: both are one", x.bag(2, 2), Town.OUTSIDE);
        for (int k = 0; k < 80; k++) Check.due("43: its number", x.bag(0, 1), k);
        Check.due("43: eighty bags", x.bag(0, 1), Town.ROOM);
        Check.due("44: UNKNOWN", x.into(80, 0) + x.into(0, 0) + x.into(-1, 0), 3 * Town.UNKNOWN);
        Check.due("45: UNKNOWN", x.closeBag(80) + x.closeBag(-1), 2 * Town.UNKNOWN);
        Check.due("46: UNKNOWN", x.openBag(80) + x.openBag(-1), 2 * Town.UNKNOWN);
        Check.due("47: UNKNOWN", x.bagAt(80, 6) + x.bagAt(-1, 0), 2 * Town.UNKNOWN);
        Check.due("47: OUTSIDE", x.bagAt(0, 6) + x.bagAt(0, -1), 2 * Town.OUTSIDE);
        Check.due("46: it is OPEN", x.openBag(0), Town.STATE);
        Check.due("45: closed", x.closeBag(0), 0);
        Check.due("45: it is CLOSED", x.closeBag(0), Town.STATE);
        Check.due("46: not at its end", x.openBag(0), Town.STATE);
    }

    private static int posted(PostHouse x, int point, int place) {
        int item = x.item(0, 10, 0, 4, 1, 0);
        if (point >= 0) x.address(item, point);
        x.post(item, place);
        return item;
    }

    private static String bag(PostHouse x, int bag) {
        StringBuilder b = new StringBuilder();
        for (int what = 0; what <= 5; what++) b.append(x.bagAt(bag, what)).append(' ');
        return b.toString();
    }

    private static void filling() {
        PostHouse x = four();
        x.bag(0, 1);
        int a = posted(x, 2, 0);
        Check.due("44: how many", x.into(0, a), 1);
        Check.due("44: it is BAGGED", x.into(0, a), Town.STATE);
        Check.due("27: state and bag", x.about(a, 0) * 10 + x.about(a, 9), 20);
        Check.due("44: no address", x.into(0, posted(x, -1, 0)), Town.STATE);
        Check.due("44: at another place", x.into(0, posted(x, 2, 2)), Town.STATE);
        Check.due("44: for another place", x.into(0, posted(x, 3, 0)), Town.STATE);
        Check.due("44: for its own place", x.into(0, posted(x, 0, 0)), Town.STATE);
        int told = x.item(0, 1, 0, 4, 1, 0);
        x.address(told, 2);
        Check.due("44: TOLD", x.into(0, told), Town.STATE);
        for (int k = 2; k <= 40; k++) Check.due("44: how many", x.into(0, posted(x, 2, 0)), k);
        int more = posted(x, 2, 0);
        Check.due("44: forty", x.into(0, more), Town.ROOM);
        Check.due("44: STATE is told first", x.into(0, a), Town.STATE);
        Check.due("55: one is lost", x.lose(a), 1);
        Check.due("47: how many are left", x.bagAt(0, 3), 39);
        Check.due("44: so it has room", x.into(0, more), 40);
        Check.due("47: OPEN", bag(x, 0), "0 0 1 40 -1 -1 ");
        Check.due("45: how many", x.closeBag(0), 40);
        Check.due("47: it waits", bag(x, 0), "1 0 1 40 -1 -1 ");
        Check.due("44: it is not OPEN", x.into(0, posted(x, 2, 0)), Town.STATE);
    }

    private static void journey() {
        PostHouse x = four();
        x.leg(0, 1, 100, 2000, 2);
        x.bag(0, 1);
        int a = posted(x, 2, 0), b = posted(x, 2, 0), c = posted(x, 2, 0);
        x.into(0, c);
        x.into(0, a);
        x.into(0, b);
        x.tick(100);
        Check.due("47: an OPEN bag stays", bag(x, 0), "0 0 1 3 -1 -1 ");
        x.closeBag(0);
        x.tick(1439);
        Check.due("47: it waits a day", bag(x, 0), "1 0 1 3 -1 -1 ");
        x.tick(1);
        Check.due("47: on its line", bag(x, 0), "2 -1 1 3 0 3540 ");
        Check.due("46: on a line", x.openBag(0), Town.STATE);
        x.lose(a);
        Check.due("47: one is lost on the way", x.bagAt(0, 3), 2);
        x.tick(1440);
        x.tick(559);
        Check.due("47: a minute before", bag(x, 0), "2 -1 1 2 0 3540 ");
        x.tick(1);
        Check.due("47: it waits at its end", bag(x, 0), "1 1 1 2 -1 -1 ");
        x.tick(1440);
        Check.due("47: there it stays", bag(x, 0), "1 1 1 2 -1 -1 ");
        x.wish(4, 1, true);
        Check.due("46: how many", x.openBag(0), 2);
        Check.due("47: EMPTIED", bag(x, 0), "3 1 1 0 -1 -1 ");
        Check.due("46: EMPTIED", x.openBag(0), Town.STATE);
        Check.due("27: IN there", x.about(b, 0) * 100 + x.about(b, 8) * 10 + x.about(b, 9), 109);
        Check.due("46: in the order in which they came into it", x.notice(0, 1) * 10 + x.notice(1, 1), c * 10 + b);
        Check.due("45: EMPTIED", x.closeBag(0), Town.STATE);
    }

    private static void space() {
        PostHouse x = four();
        x.leg(0, 1, 100, 10, 2);
        for (int k = 0; k < 4; k++) x.bag(0, 1);
        for (int k = 3; k >= 1; k--) x.closeBag(k);
        x.tick(105);
        Check.due("47: those with the least numbers", x.bagAt(1, 0) * 100 + x.bagAt(2, 0) * 10 + x.bagAt(3, 0), 221);
        Check.due("47: an OPEN one stays", x.bagAt(0, 0), 0);
        x.closeBag(0);
        x.tick(1440);
        Check.due("47: the next day", x.bagAt(0, 4) * 10 + x.bagAt(3, 4), 0);
        Check.due("76: audit", x.audit(), 0);
    }

    private static void spaceStillTaken() {
        PostHouse x = four();
        x.leg(0, 1, 100, 2880, 2);
        for (int k = 0; k < 4; k++) x.bag(0, 1);
        x.closeBag(0);
        x.tick(100);
        for (int k = 1; k < 4; k++) x.closeBag(k);
        x.tick(1440);
        Check.due("47: one more has space", x.bagAt(1, 0) * 10 + x.bagAt(2, 0), 21);
        x.tick(1440);
        Check.due("47: what arrives makes space first", x.bagAt(0, 0) * 100 + x.bagAt(2, 0) * 10 + x.bagAt(3, 0), 121);
        x.tick(1440);
        Check.due("47: and so on", x.bagAt(1, 0) * 10 + x.bagAt(3, 0), 12);
    }

    private static void twoLegs() {
        PostHouse x = four();
        x.leg(0, 1, 100, 20, 1);
        x.leg(1, 2, 120, 30, 1);
        x.bag(0, 2);
        x.closeBag(0);
        x.tick(119);
        Check.due("47: on the first line", bag(x, 0), "2 -1 2 0 0 120 ");
        x.tick(1);
        Check.due("47: it arrives before the second one leaves", bag(x, 0), "2 -1 2 0 1 150 ");
        x.tick(30);
        Check.due("47: at its end", bag(x, 0), "1 2 2 0 -1 -1 ");
        PostHouse y = four();
        y.leg(0, 1, 100, 20, 1);
        y.leg(1, 2, 119, 30, 1);
        y.bag(0, 2);
        y.closeBag(0);
        y.tick(150);
        Check.due("47: it waits between", bag(y, 0), "1 1 2 0 -1 -1 ");
        Check.due("46: that is not its end", y.openBag(0), Town.STATE);
        y.tick(1440);
        Check.due("47: the next day", bag(y, 0), "1 2 2 0 -1 -1 ");
    }

    private static void looksJustBeforeItLeaves() {
        PostHouse x = four();
        // Both leave at 100; line 0 goes the long way, line 1 is full after one bag: the second one takes line 1 a day later.
        x.leg(0, 2, 100, 3000, 5);
        x.leg(0, 1, 100, 10, 1);
        x.leg(1, 2, 200, 10, 5);
        x.bag(0, 2);
        x.bag(0, 2);
        x.closeBag(0);
        x.closeBag(1);
        Check.due("48: the first line of the way", x.way(0, 2, 1), 1);
        Check.due("48: it is reached", x.way(0, 2, 0), 210);
        x.tick(100);
        Check.due("47: taken", x.bagAt(0, 4), 1);
        Check.due("47: no space, and no other way is looked for", x.bagAt(1, 0), 1);
        for (int k = 0; k < 5; k++) x.late(1, 600);
        Check.due("48: the way changes", x.way(0, 2, 0) * 10 + x.way(0, 2, 1), 45400);
        x.tick(1440);
        Check.due("47: so line 0 takes it", x.bagAt(1, 4), 0);
        // Two lines of one minute: line 0 leaves before line 1, so that for line 1 it leaves a day later.
        PostHouse y = four();
        y.leg(0, 1, 50, 10, 1);
        y.leg(0, 1, 50, 10, 1);
        y.bag(0, 1);
        y.bag(0, 1);
        y.closeBag(0);
        y.closeBag(1);
        y.tick(50);
        Check.due("47: each takes one", y.bagAt(0, 4) * 10 + y.bagAt(1, 4), 1);
    }

    private static void ways() {
        PostHouse x = four();
        Check.due("48: UNKNOWN", x.way(4, 0, 9) + x.way(0, 4, 0) + x.way(-1, 0, 0), 3 * Town.UNKNOWN);
        Check.due("48: OUTSIDE", x.way(0, 0, 2) + x.way(0, 1, -1), 2 * Town.OUTSIDE);
        Check.due("48: not reached", x.way(0, 1, 0) + x.way(0, 1, 1), -2);
        x.tick(77);
        Check.due("48: the same place", x.way(2, 2, 0), 77);
        Check.due("48: has no line", x.way(2, 2, 1), Town.NONE);
        x.leg(0, 1, 77, 5, 1);
        Check.due("48: this minute is over", x.way(0, 1, 0), 1440 + 82);
        x.leg(0, 1, 78, 1444, 1);
        Check.due("48: as soon: the first one stays", x.way(0, 1, 0) * 10 + x.way(0, 1, 1), 15220);
        x.leg(0, 1, 78, 1443, 1);
        Check.due("48: sooner", x.way(0, 1, 0) * 10 + x.way(0, 1, 1), 15212);
        x.leg(1, 2, 81, 10, 1);
        Check.due("48: at the minute when it is reached", x.way(0, 2, 0), 1531);
        x.leg(1, 2, 80, 10, 1);
        Check.due("48: a minute too late", x.way(0, 2, 0), 1531);
        x.leg(2, 3, 0, 1, 1);
        Check.due("48: three lines", x.way(0, 3, 0) * 10 + x.way(0, 3, 1), 28812);
        Check.due("48: and no way back", x.way(3, 0, 0), Town.NONE);
        x.late(3, 30);
        Check.due("48: late today, but not the next day", x.way(0, 2, 0), 1531);
        x.late(4, 35);
        Check.due("48: late today", x.way(1, 2, 0) * 10 + x.way(1, 2, 1), 1213);
    }

    private static void waysAsLong() {
        PostHouse x = four();
        // Places 1 and 2 are reached at one time, and both reach place 3 at one time: place 1 is looked at first.
        x.leg(0, 2, 100, 10, 1);
        x.leg(0, 1, 100, 10, 1);
        x.leg(2, 3, 200, 5, 1);
        x.leg(1, 3, 200, 5, 1);
        Check.due("48: of these the least number", x.way(0, 3, 0) * 10 + x.way(0, 3, 1), 2051);
        PostHouse y = four();
        // Two lines of one place: the first one stays.
        y.leg(0, 1, 100, 10, 1);
        y.leg(1, 3, 200, 5, 1);
        y.leg(0, 3, 200, 5, 1);
        Check.due("48: place 0 is looked at first", y.way(0, 3, 1), 2);
    }

    private static void goalPlaces() {
        PostHouse x = four();
        x.bag(0, 1);
        x.bag(0, 2);
        x.forward(1, 0, 2, 9);
        int a = posted(x, 1, 0);
        Check.due("44: its goal is in place 1", x.into(1, a), Town.STATE);
        Check.due("44: so it goes there", x.into(0, a), 1);
        x.hold(2, 0, 9);
        int b = posted(x, 1, 0);
        Check.due("44: HELD at the last point", x.into(0, b), 2);
        x.forward(2, 0, 3, 9);
        x.forward(3, 0, 2, 9);
        int c = posted(x, 1, 0);
        Check.due("44: RING: that which leads back counts", x.into(0, c), Town.STATE);
        Check.due("44: it is in place 2", x.into(1, c), 1);
        PostHouse y = four();
        y.bag(1, 0);
        y.forward(0, 0, 3, 9);
        int d = posted(y, 2, 1);
        Town.bringOut(y, d);
        y.refuse(d);
        Check.due("44: GOING BACK to the home itself", y.into(0, d), 1);
    }
}
