/** Promises 11 to 17: the book, the orders about points, and what is asked of them. */
public final class BookTest {
    public static void main(String[] args) {
        entries();
        bytesThatCannotStand();
        wrongEntries();
        nothingOfAFaultyTextCounts();
        rooms();
        ranges();
        questions();
        orderRefusals();
        goals();
        orderDays();
        chains();
        Check.finish();
    }

    private static void text(String text, int due) {
        Check.due("11: book of " + text, Town.book(new PostHouse(), text), due);
    }

    private static void entries() {
        PostHouse x = new PostHouse();
        Check.due("11: a whole book", Town.book(x, Town.BOOK), 13);
        Check.due("11: one entry more", Town.book(x, "H100,TOR,7;"), 1);
        Check.due("10: points", x.count(3), 6);
        text("P1,A;", 1);
        text("P000001,ABCDEFGHIJ;", 1);
        text("P99999,Z;P1,Z;", 2);
        text("P1,A;S1,A,0,999,3;S1,B,999,0,0;", 3);
        text("P1,A;P2,A;S1,A,0,0,0;S2,A,0,0,0;", 4);
        text("P1,A;S1,A,0,0,0;R1,A,0,1,999;H1,A,1;H1,A,999;H1,A,0500;", 6);
    }

    private static void bytesThatCannotStand() {
        text("", -1000);
        text(";", -1000);
        text("p1,A;", -1000);
        text("#", -1000);
        text("P", -1001);
        text("P,A;", -1001);
        text("P1234567,A;", -1007);
        text("P12;", -1003);
        text("P1,;", -1003);
        text("P1,a;", -1003);
        text("P1,ABCDEFGHIJK;", -1013);
        text("P1,A", -1004);
        text("P1,A,;", -1004);
        text("P1,A;\n", -1005);
        text("P1,A;P", -1006);
        text("P1,A; P2,B;", -1005);
        text("P1,A;S1,A,1,1;", -1013);
        text("P1,A;S1,A,-1,1,0;", -1010);
        text("P1,A;S1,A,1,1,0", -1015);
        text("P1,A;H1,A,1,1;", -1011);
        text("P1,A;R1,A,1,1;", -1013);
        text("P1,A;K1,2=3;", -1005);
        // The first entry with a fault counts, also when a later one has a byte that cannot stand.
        text("P0,A;?", -1000);
        text("P1,A;P1,B;?", -1005);
    }

    private static void wrongEntries() {
        String town = "P5,A;S5,LANG,1,1,1;R5,LANG,1,3,9;";
        int n = town.length();
        String[] wrong = {"P0,A;", "P100000,A;", "P5,B;", "S6,A,1,1,1;", "S5,LANG,1,1,1;", "S5,B,1000,1,1;", "S5,B,1,1000,1;", "S5,B,1,1,4;",
            "R6,LANG,0,50,60;", "R5,KURZ,0,50,60;", "R5,LANG,3,50,60;", "R5,LANG,0,0,1;", "R5,LANG,0,1000,1000;", "R5,LANG,0,20,19;",
            "R5,LANG,0,20,1000;", "R5,LANG,0,9,20;", "R5,LANG,1,1,3;", "R5,LANG,0,1,999;", "H6,LANG,3;", "H5,KURZ,3;", "H5,LANG,4;", "H5,LANG,1;",
            "H5,LANG,11;", "H5,LANG,0;", "S0,A,1,1,1;", "S999999,A,1,1,1;"};
        for (String w : wrong) text(town + w, -1000 - n);
        String[] right = {"R5,LANG,2,1,999;", "R5,LANG,1,1,2;", "R5,LANG,0,10,10;", "R5,LANG,2,3,3;", "R5,LANG,1,999,999;", "R5,LANG,0,1,1;", "H5,LANG,3;", "H5,LANG,9;", "H5,LANG,000005;"};
        for (String r : right) text(town + r, 4);
        text(town + "H5,LANG,3;H5,LANG,3;", -1000 - n - 10);
    }

    private static void nothingOfAFaultyTextCounts() {
        PostHouse x = new PostHouse();
        Check.due("11: a fault in the end", Town.book(x, Town.BOOK + "P8,"), -1000 - Town.BOOK.length() - 3);
        for (int what = 0; what <= 3; what++) Check.due("11: nothing counts", x.count(what), 0);
        Check.due("16: not even the first", x.find(100), Town.NONE);
        Check.due("10: it is no act", x.count(16), 0);
        Check.due("11: the same without the fault", Town.book(x, Town.BOOK), 13);
        Town.book(x, "P8,X;H7,KAI,6;H7,KAI,3;");
        Check.due("11: what was there before stays", x.count(0) * 10 + x.count(3), 25);
        Check.due("16: what came is gone", x.find(8), Town.NONE);
    }

    private static void rooms() {
        StringBuilder places = new StringBuilder();
        for (int p = 1; p <= 13; p++) places.append("P").append(p + 10).append(",A;");
        text(places.toString(), -1000 - 12 * 6);
        text(places.substring(0, 72), 12);
        StringBuilder streets = new StringBuilder("P1,A;");
        for (int s = 0; s < 31; s++) streets.append("S1,").append((char) ('A' + s % 26)).append((char) ('A' + s / 26)).append(",1,1,1;");
        text(streets.toString(), -1000 - 5 - 30 * 12);
        StringBuilder ranges = new StringBuilder("P1,A;S1,A,1,1,1;");
        for (int r = 0; r < 61; r++) ranges.append("R1,A,0,").append(100 + r).append(",").append(100 + r).append(";");
        text(ranges.toString(), -1000 - 16 - 60 * 15);
        StringBuilder points = new StringBuilder("P1,A;S1,A,1,1,1;R1,A,0,100,999;");
        for (int h = 0; h < 121; h++) points.append("H1,A,").append(100 + h).append(";");
        text(points.toString(), -1000 - 31 - 120 * 9);
        PostHouse x = new PostHouse();
        Check.due("11: 120 points have room", Town.book(x, points.substring(0, 31 + 120 * 9)), 123);
        Check.due("17: the last one", x.pointAt(119, 1), 219);
    }

    private static void ranges() {
        PostHouse x = new PostHouse();
        Town.book(x, "P1,A;S1,A,0,0,0;R1,A,1,10,20;R1,A,2,10,20;");
        Check.due("11: odd and even beside each other", x.count(2), 2);
        Check.due("11: a house between", Town.book(x, "R1,A,0,15,15;"), -1000);
        Check.due("11: one side of one house", Town.book(x, "R1,A,1,20,21;"), 1);
        Check.due("11: 21 is taken now", Town.book(x, "R1,A,1,21,30;"), -1000);
        Check.due("11: 20 is not in it", Town.book(x, "H1,A,20;H1,A,21;H1,A,11;"), 3);
        Check.due("11: 22 is in none", Town.book(x, "H1,A,22;"), -1000);
        Check.due("11: another street has houses of its own", Town.book(x, "S1,B,0,0,0;R1,B,0,10,20;H1,B,20;"), 3);
    }

    private static void questions() {
        PostHouse x = Town.built(0);
        Check.due("16: find", x.find(100) * 10 + x.find(7), 1);
        Check.due("16: no such code", x.find(70) + x.find(0) + x.find(-1), -3);
        int[][] due = {{0, 3, 13, 20, 0}, {0, 12, 22, 20, 0}, {1, 5, 0, 5, 0}, {2, 4, 1, 5, 1}, {2, 8, -3, 5, 1}};
        for (int p = 0; p < 5; p++) for (int what = 0; what < 5; what++) Check.due("17: pointAt(" + p + ", " + what + ")", x.pointAt(p, what), due[p][what]);
        Town.book(x, "S7,TIEF,9,9,3;R7,TIEF,0,1,20;H7,TIEF,20;");
        Check.due("17: y falls", x.pointAt(5, 2) * 100 + x.pointAt(5, 3), 889);
        Check.due("17: no round", x.pointAt(0, 5), Town.NONE);
        x.round(0, 0, 0);
        x.round(0, 0, 0);
        x.assign(1, 1);
        Check.due("17: its round", x.pointAt(1, 5), 1);
        Check.due("17: UNKNOWN", x.pointAt(6, 9) + x.pointAt(-1, 0), 2 * Town.UNKNOWN);
        Check.due("17: OUTSIDE", x.pointAt(0, 6) + x.pointAt(0, -1), 2 * Town.OUTSIDE);
    }

    private static void orderRefusals() {
        PostHouse x = Town.built(0);
        Check.due("12: UNKNOWN", x.forward(5, 0, 1, 1) + x.forward(1, 100, 5, 1) + x.forward(-1, 0, 0, 0), 3 * Town.UNKNOWN);
        Check.due("13: UNKNOWN", x.hold(5, 100, 1) + x.hold(-1, 0, 1), 2 * Town.UNKNOWN);
        Check.due("12: person", x.forward(0, -1, 1, 1) + x.forward(0, 100, 1, 1), 2 * Town.OUTSIDE);
        Check.due("12: until", x.forward(0, 0, 1, 0) + x.forward(0, 0, 1, 100001), 2 * Town.OUTSIDE);
        Check.due("12: both points are one", x.forward(1, 0, 1, 5), Town.OUTSIDE);
        Check.due("13: OUTSIDE", x.hold(0, -1, 1) + x.hold(0, 100, 1) + x.hold(0, 0, 0) + x.hold(0, 0, 100001), 4 * Town.OUTSIDE);
        Check.due("14, 15: UNKNOWN", x.effective(5, 100) + x.lastPoint(-1, 0), 2 * Town.UNKNOWN);
        Check.due("14, 15: OUTSIDE", x.effective(0, 100) + x.effective(0, -1) + x.lastPoint(0, 100) + x.lastPoint(0, -1), 4 * Town.OUTSIDE);
        Check.due("10: no order", x.count(4), 0);
        Town.goOn(x, 2);
        Check.due("12: until above today", x.forward(0, 0, 1, 2), Town.OUTSIDE);
        Check.due("12: tomorrow", x.forward(0, 99, 1, 3), 0);
        Check.due("13: the last day", x.hold(0, 99, 100000), 1);
        for (int k = 2; k < 60; k++) Check.due("13: its number", k % 2 == 0 ? x.hold(1, 7, 50) : x.forward(1, 7, 0, 50), k);
        Check.due("12, 13: 60 orders", x.hold(0, 0, 9) + x.forward(0, 0, 1, 9), 2 * Town.ROOM);
        Check.due("13: OUTSIDE is told first", x.hold(0, 0, 2), Town.OUTSIDE);
    }

    private static void asked(PostHouse x, int point, int person, int goal, int last) {
        Check.due("14: effective(" + point + ", " + person + ")", x.effective(point, person), goal);
        Check.due("15: lastPoint(" + point + ", " + person + ")", x.lastPoint(point, person), last);
    }

    private static void goals() {
        PostHouse x = Town.built(0);
        asked(x, 2, 9, 2, 2);
        asked(x, 2, 99, 2, 2);
        x.forward(0, 3, 1, 9);
        asked(x, 0, 3, 1, 1);
        asked(x, 0, 4, 0, 0);
        asked(x, 0, 0, 0, 0);
        x.hold(0, 0, 9);
        asked(x, 0, 3, Town.HELD, 0);
        asked(x, 0, 4, Town.HELD, 0);
        asked(x, 0, 0, Town.HELD, 0);
        x.forward(0, 3, 2, 9);
        asked(x, 0, 3, 2, 2);
        asked(x, 0, 0, Town.HELD, 0);
        x.hold(2, 3, 9);
        asked(x, 0, 3, Town.HELD, 2);
        asked(x, 2, 4, 2, 2);
    }

    private static void orderDays() {
        PostHouse x = Town.built(0);
        x.tick(1439);
        x.hold(0, 0, 3);
        x.forward(0, 0, 1, 2);
        x.forward(0, 0, 2, 1);
        asked(x, 0, 1, 2, 2);
        x.tick(1);
        asked(x, 0, 1, 1, 1);
        x.tick(1439);
        asked(x, 0, 1, 1, 1);
        x.tick(1);
        asked(x, 0, 1, Town.HELD, 0);
        x.tick(1440);
        asked(x, 0, 1, 0, 0);
    }

    private static void chains() {
        PostHouse x = Town.built(0);
        x.forward(0, 0, 1, 9);
        x.forward(1, 0, 2, 9);
        x.forward(2, 0, 3, 9);
        asked(x, 0, 5, 3, 3);
        x.forward(3, 5, 1, 9);
        asked(x, 0, 5, Town.RING, 3);
        asked(x, 1, 5, Town.RING, 3);
        asked(x, 3, 5, Town.RING, 2);
        asked(x, 0, 6, 3, 3);
        x.forward(3, 5, 0, 9);
        asked(x, 0, 5, Town.RING, 3);
        asked(x, 2, 5, Town.RING, 1);
        x.forward(3, 5, 4, 9);
        asked(x, 0, 5, 4, 4);
    }
}
