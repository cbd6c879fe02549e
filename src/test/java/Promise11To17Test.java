/** Promises 11 to 17, edge by edge: the text of the book, orders about points, goals, points. */
public final class Promise11To17Test {
    private static final String LANE = "P1,A;S1,A,0,0,0;R1,A,0,1,99;";

    public static void main(String[] args) {
        promise11EntriesAndText();
        promise11TextsEnd();
        promise11BytesThatCannotStand();
        promise11EdgesOfBytes();
        promise11Numbers();
        promise11Names();
        promise11WhichFault();
        promise11Places();
        promise11Streets();
        promise11Ranges();
        promise11RangesThatShareHouses();
        promise11Points();
        promise11RoomForPlaces();
        promise11RoomForStreets();
        promise11RoomForRanges();
        promise11RoomForPoints();
        promise11NothingOfIt();
        promise11LongestText();
        promise12Forward();
        promise13Hold();
        promise12And13Room();
        promise12And13Days();
        promise14Persons();
        promise14ToldLast();
        promise14Days();
        promise14Rings();
        promise14LongChain();
        promise14And15Refusals();
        promise16Find();
        promise17PointAt();
        promise17Ways();
        Check.finish();
    }

    private static void text(String text, int due) {
        Check.due("11: book of " + text, Town.book(new PostHouse(), text), due);
    }

    private static void fault(String text, int at) {
        text(text, -1000 - at);
    }

    private static void promise11EntriesAndText() {
        fault("", 0);
        text("P1,A;", 1);
        text("P1,A;P2,A;", 2);
        fault(";", 0);
        fault("P1,A;;", 5);
        fault(" P1,A;", 0);
        fault("P1,A; ", 5);
        fault("P1,A;\0", 5);
        fault("P1,A;P2,A", 9);
        text(Town.BOOK, 13);
    }

    private static final String[] SHAPES = {"P90001,BERG;", "S77,LANG,12,999,3;", "R77,ALT,2,101,305;", "H77,ALT,64;"};
    private static final String SHAPE_TOWN = "P77,TAL;S77,ALT,0,0,0;R77,ALT,0,1,99;";

    private static void promise11TextsEnd() {
        int n = SHAPE_TOWN.length();
        for (String entry : SHAPES) {
            text(SHAPE_TOWN + entry, 4);
            for (int k = 1; k < entry.length(); k++) fault(SHAPE_TOWN + entry.substring(0, k), n + k);
        }
    }

    private static void promise11BytesThatCannotStand() {
        int n = SHAPE_TOWN.length();
        for (String entry : SHAPES) {
            for (int k = 0; k < entry.length(); k++) {
                for (char bad : new char[] {'#', 'a', ' ', '.', '-', 0, 255}) {
                    fault(SHAPE_TOWN + entry.substring(0, k) + bad + entry.substring(k + 1), n + k);
                }
            }
            for (int k = 1; k < entry.length(); k++) {
                // A byte left out: the next one cannot stand, but where a number or name is only shorter then.
                if (",;".indexOf(entry.charAt(k)) < 0) continue;
                boolean numberGoesOn = Character.isDigit(entry.charAt(k - 1)) && k + 1 < entry.length() && Character.isDigit(entry.charAt(k + 1));
                if (!numberGoesOn) fault(SHAPE_TOWN + entry.substring(0, k) + entry.substring(k + 1), n + k);
            }
        }
    }

    private static void promise11EdgesOfBytes() {
        fault("P/,A;", 1);
        fault("P:,A;", 1);
        text("P9,A;", 1);
        fault("P0,A;", 0);
        text("P10,A;", 1);
        fault("P1/,A;", 2);
        fault("P1:,A;", 2);
        fault("P1,@;", 3);
        fault("P1,[;", 3);
        text("P1,Z;", 1);
        fault("P1,A@;", 4);
        fault("P1,A[;", 4);
        for (char letter : "AGIKOQTV".toCharArray()) fault("P1,A;" + letter + "1,A;", 5);
        for (String begins : new String[] {"@;", "#,A;", ",A;", "#;", "#", "@", ",", "=5;"}) {
            fault(begins, 0);
            fault("P1,A;" + begins, 5);
        }
        for (char letter : "psrh".toCharArray()) fault("P1,A;" + letter + "1,A;", 5);
        fault("P1,\u00C1;", 3);
        fault("P\u00B1,A;", 1);
        fault("\u00D01,A;", 0);
    }

    private static void promise11Numbers() {
        fault("P,A;", 1);
        text("P1,A;", 1);
        text("P000001,A;", 1);
        fault("P0000001,A;", 7);
        fault("P1234567,A;", 7);
        fault("P999999,A;", 0);
        fault("P999999x", 7);
        fault("P-1,A;", 1);
        fault("P+1,A;", 1);
        text("P1,A;S000001,A,000999,000000,000003;", 2);
        fault("P1,A;S1,A,0000000,0,0;", 16);
        fault("P1,A;S1,A,0,0000000,0;", 18);
        fault("P1,A;S1,A,0,0,0000000;", 20);
        text(LANE + "H000001,A,000009;", 4);
        fault(LANE + "H1,A,0000009;", LANE.length() + 11);
    }

    private static void promise11Names() {
        fault("P1,;", 3);
        text("P1,ABCDEFGHIJ;", 1);
        fault("P1,ABCDEFGHIJK;", 13);
        text("P1,ZZZZZZZZZZ;", 1);
        fault("P1,ZZZZZZZZZZZ;", 13);
        fault("P1,A1;", 4);
        // Names that differ in their last letter, in their length, or in A alone.
        text("P1,A;S1,A,0,0,0;S1,AA,0,0,0;S1,AAA,0,0,0;S1,AAAAAAAAAA,0,0,0;S1,AAAAAAAAAB,0,0,0;S1,BAAAAAAAAA,0,0,0;S1,Z,0,0,0;", 8);
        fault("P1,A;S1,AAAAAAAAAA,0,0,0;S1,AAAAAAAAAA,0,0,0;", 25);
        fault("P1,A;S1,ABCDEFGHIJK,0,0,0;", 18);
    }

    private static void promise11WhichFault() {
        // The first entry that has a fault counts, of whichever sort it is.
        fault("P0,A;?", 0);
        fault("P1,A;P1,B;?", 5);
        fault("P1,A;P2,?;P0,A;", 8);
        // In one entry the byte that cannot stand counts before the numbers and names.
        fault("P0,a;", 3);
        fault("P0,A", 4);
        fault("P0,", 3);
        fault("P100000,A,", 9);
        fault("P1,A;S9,A,1000,0,0!", 18);
        fault("P1,A;S9,A,1000,0,0;", 5);
        fault("P1,A;P2,B;H1,A,1;P0,A;", 10);
    }

    private static void promise11Places() {
        fault("P0,A;", 0);
        fault("P000000,A;", 0);
        text("P1,A;", 1);
        text("P99999,A;", 1);
        fault("P100000,A;", 0);
        fault("P1,A;P1,B;", 5);
        fault("P1,A;P01,B;", 5);
        text("P1,A;P10,A;", 2);
        PostHouse x = new PostHouse();
        Town.book(x, "P1,A;");
        Check.due("11: a code that there was before", Town.book(x, "P2,B;P1,C;"), -1005);
        Check.due("11: it is free still", Town.book(x, "P2,B;"), 1);
    }

    private static void promise11Streets() {
        String p = "P5,A;";
        text(p + "S5,A,0,0,0;", 2);
        text(p + "S5,A,999,999,3;", 2);
        fault(p + "S5,A,1000,0,0;", 5);
        fault(p + "S5,A,0,1000,0;", 5);
        fault(p + "S5,A,0,0,4;", 5);
        fault(p + "S4,A,0,0,0;", 5);
        fault(p + "S0,A,0,0,0;", 5);
        fault("S5,A,0,0,0;" + p, 0);
        fault(p + "S5,A,0,0,0;S5,A,1,1,1;", 16);
        text(p + "P6,B;S5,A,0,0,0;S6,A,0,0,0;", 4);
        text(p + "S5,A,0,0,0;S5,B,0,0,0;", 3);
        text(p + "S5,A,1,0,0;S5,AB,0,0,0;", 3);
    }

    private static void promise11Ranges() {
        String s = "P5,A;P6,B;S5,L,0,0,0;S6,M,0,0,0;";
        int n = s.length();
        text(s + "R5,L,0,1,1;", 5);
        text(s + "R5,L,2,999,999;", 5);
        text(s + "R5,L,1,1,999;", 5);
        fault(s + "R5,L,3,1,1;", n);
        fault(s + "R5,L,0,0,1;", n);
        fault(s + "R5,L,0,0,0;", n);
        fault(s + "R5,L,0,1,1000;", n);
        fault(s + "R5,L,0,1000,1000;", n);
        fault(s + "R5,L,0,999,1000;", n);
        text(s + "R5,L,0,7,7;", 5);
        fault(s + "R5,L,0,8,7;", n);
        fault(s + "R5,M,0,1,1;", n);
        fault(s + "R6,L,0,1,1;", n);
        fault(s + "R7,L,0,1,1;", n);
        fault(s + "R5,N,0,1,1;", n);
        text(s + "R5,L,0,1,9;R6,M,0,1,9;", 6);
    }

    private static void promise11RangesThatShareHouses() {
        String s = "P5,A;S5,L,0,0,0;R5,L,0,10,20;";
        int n = s.length();
        text(s + "R5,L,0,1,9;", 4);
        fault(s + "R5,L,0,1,10;", n);
        text(s + "R5,L,0,21,30;", 4);
        fault(s + "R5,L,0,20,30;", n);
        fault(s + "R5,L,0,15,15;", n);
        fault(s + "R5,L,0,1,999;", n);
        fault(s + "R5,L,0,10,20;", n);
        fault(s + "R5,L,2,1,10;", n);
        text(s + "R5,L,1,1,10;", 4);
        fault(s + "R5,L,2,20,30;", n);
        text(s + "R5,L,1,20,30;", 4);
        fault(s + "R5,L,1,1,11;", n);
        String odd = "P5,A;S5,L,0,0,0;R5,L,1,11,21;";
        text(odd + "R5,L,2,1,999;", 4);
        fault(odd + "R5,L,1,21,31;", n);
        fault(odd + "R5,L,1,1,11;", n);
        text(odd + "R5,L,1,1,9;R5,L,1,23,23;", 5);
        text(odd + "R5,L,0,1,10;R5,L,0,22,30;", 5);
        text(odd + "R5,L,0,14,14;R5,L,0,16,16;", 5);
        fault(odd + "R5,L,0,14,15;", n);
        fault(odd + "R5,L,0,15,16;", n);
        // A range without a house shares none.
        text(odd + "R5,L,1,10,10;R5,L,2,11,11;R5,L,1,12,12;", 6);
        text("P5,A;S5,L,0,0,0;R5,L,1,8,8;R5,L,0,8,8;", 4);
        // Any of the ranges before counts, not just the first or the last.
        fault("P5,A;S5,L,0,0,0;R5,L,0,1,1;R5,L,0,5,5;R5,L,0,9,9;R5,L,0,5,6;", 16 + 33);
        fault("P5,A;S5,L,0,0,0;R5,L,0,1,1;R5,L,0,5,5;R5,L,0,9,9;R5,L,0,1,2;", 16 + 33);
        text("P5,A;S5,L,0,0,0;S5,M,0,0,0;R5,L,0,1,9;R5,M,0,1,9;", 5);
    }

    private static void promise11Points() {
        String s = "P5,A;S5,L,0,0,0;S5,M,0,0,0;R5,L,1,4,9;R5,L,2,20,25;R5,M,0,50,50;";
        int n = s.length();
        for (int house : new int[] {5, 7, 9, 20, 22, 24}) text(s + "H5,L," + house + ";", 7);
        for (int house : new int[] {0, 3, 4, 6, 8, 10, 11, 18, 19, 21, 25, 26, 50, 999999}) fault(s + "H5,L," + house + ";", n);
        text(s + "H5,M,50;", 7);
        fault(s + "H5,M,49;", n);
        fault(s + "H5,M,51;", n);
        fault(s + "H6,L,5;", n);
        fault(s + "H5,N,5;", n);
        fault(s + "H5,L,5;H5,L,5;", n + 7);
        fault(s + "H5,L,5;H5,L,05;", n + 7);
        text(s + "R5,M,0,5,5;H5,L,5;H5,M,5;", 9);
        text("P5,A;S5,L,0,0,0;R5,L,0,1,1;R5,L,0,999,999;H5,L,1;H5,L,999;", 6);
        fault("P5,A;S5,L,0,0,0;H5,L,1;R5,L,0,1,1;", 16);
    }

    private static String places(int from, int to) {
        StringBuilder b = new StringBuilder();
        for (int p = from; p <= to; p++) b.append("P").append(p).append(",A;");
        return b.toString();
    }

    private static void promise11RoomForPlaces() {
        text(places(10, 21), 12);
        fault(places(10, 22), 12 * 6);
        PostHouse x = new PostHouse();
        Check.due("11: eleven", Town.book(x, places(10, 20)), 11);
        Check.due("11: two more have no room", Town.book(x, "P50,A;P51,A;"), -1006);
        Check.due("11: nor has one of them stayed", x.count(0), 11);
        Check.due("11: the twelfth", Town.book(x, "P50,A;"), 1);
        Check.due("11: the thirteenth", Town.book(x, "P51,A;"), -1000);
        Check.due("11: a street has room", Town.book(x, "S50,A,0,0,0;"), 1);
        Check.due("16: the last one", x.find(50), 11);
    }

    private static void promise11RoomForStreets() {
        StringBuilder b = new StringBuilder();
        for (int s = 0; s < 31; s++) b.append("S1,").append((char) ('A' + s / 10)).append((char) ('A' + s % 10)).append(",1,1,1;");
        text("P1,A;" + b.substring(0, 30 * 12), 31);
        fault("P1,A;" + b, 5 + 30 * 12);
        PostHouse x = new PostHouse();
        Town.book(x, "P1,A;" + b.substring(0, 30 * 12));
        Check.due("11: the 31st street", Town.book(x, "S1,ZZ,1,1,1;"), -1000);
        Check.due("11: a range of the 30th", Town.book(x, "R1,CJ,0,1,9;H1,CJ,9;"), 2);
        Check.due("17: its street", x.pointAt(0, 0), 29);
    }

    private static void promise11RoomForRanges() {
        StringBuilder b = new StringBuilder("P1,A;S1,A,0,0,0;");
        for (int r = 0; r < 61; r++) b.append("R1,A,0,").append(100 + r).append(',').append(100 + r).append(';');
        text(b.substring(0, 16 + 60 * 15), 62);
        fault(b.toString(), 16 + 60 * 15);
        PostHouse x = new PostHouse();
        Town.book(x, b.substring(0, 16 + 60 * 15));
        Check.due("11: the 61st range", Town.book(x, "R1,A,0,1,1;"), -1000);
        Check.due("11: a house of the 60th", Town.book(x, "H1,A,159;"), 1);
        Check.due("11: no house of the 61st", Town.book(x, "H1,A,160;"), -1000);
    }

    private static String points(int from, int to) {
        StringBuilder b = new StringBuilder();
        for (int h = from; h <= to; h++) b.append("H1,A,").append(h).append(';');
        return b.toString();
    }

    private static void promise11RoomForPoints() {
        String s = "P1,A;S1,A,0,0,0;R1,A,0,100,999;";
        text(s + points(100, 219), 123);
        fault(s + points(100, 220), s.length() + 120 * 9);
        PostHouse x = new PostHouse();
        Town.book(x, s + points(100, 218));
        Check.due("11: two more have no room", Town.book(x, points(300, 301)), -1009);
        Check.due("11: the 120th", Town.book(x, "H1,A,400;"), 1);
        Check.due("11: the 121st", Town.book(x, "H1,A,401;"), -1000);
        Check.due("17: the last one's house", x.pointAt(119, 1), 400);
        Check.due("17: no more", x.pointAt(120, 1), Town.UNKNOWN);
        Check.due("12: from and to the last one", x.forward(119, 0, 118, 5), 0);
        Check.due("15: the last point", x.lastPoint(119, 3), 118);
    }

    private static void promise11NothingOfIt() {
        String more = "P8,X;S8,NEU,1,1,1;S7,BERG,1,1,1;R7,KAI,1,1,9;R8,NEU,0,1,9;H8,NEU,1;H7,KAI,6;";
        for (String fault : new String[] {"?", "P8,Y;", "P9", "H7,KAI,4;", "S8,NEU,1,1,1;"}) {
            new Refusals("11", () -> Town.built(5))
                .due(-1000 - more.length() - (fault.equals("P9") ? 2 : 0), "a fault of " + fault, x -> Town.book(x, more + fault))
                .due(Town.NONE, "16: no place of it", x -> x.find(8))
                .changedNothing();
        }
        PostHouse x = Town.built(5);
        Town.book(x, more + "?");
        Check.due("11: all of it has room and is new still", Town.book(x, more), 7);
        Check.due("17: the point of the new street", x.pointAt(5, 4) * 10 + x.pointAt(5, 0), 23);
    }

    /** A text of just 4096 bytes: a place of 19, 30 streets and 60 ranges of 40, 17 points of 25 and 2 of 26. */
    private static void promise11LongestText() {
        StringBuilder b = new StringBuilder("P000001,AAAAAAAAAA;");
        for (int s = 0; s < 30; s++) b.append("S000001,AAAAAAAA").append((char) ('A' + s / 10)).append((char) ('A' + s % 10)).append(",000001,000001,000001;");
        for (int r = 100; r < 160; r++) b.append("R000001,AAAAAAAAAA,000000,000").append(r).append(",000").append(r).append(";");
        for (int p = 100; p < 119; p++) b.append(p < 117 ? "H00001" : "H000001").append(",AAAAAAAAAA,000").append(p).append(";");
        Check.due("11: so long is it", b.length(), 4096);
        PostHouse x = new PostHouse();
        Check.due("11: 4096 bytes", Town.book(x, b.toString()), 1 + 30 + 60 + 19);
        Check.due("10: its record", x.count(17), 4099);
        Check.due("4: 17 blocks", x.sync(), 17);
        Check.due("6: it is done again", Disk.restart(x), 1);
        Check.due("10: with all its points", x.count(3), 19);
        Check.due("17: the last one", x.pointAt(18, 1), 118);
        text(b.substring(0, 4095) + ",", -1000 - 4095);
        text(b.substring(0, 4095), -1000 - 4095);
    }

    private static void promise12Forward() {
        new Refusals("12", () -> Town.built(0))
            .due(Town.UNKNOWN, "point -1", x -> x.forward(-1, 0, 1, 1))
            .due(Town.UNKNOWN, "point 5 of five", x -> x.forward(5, 0, 1, 1))
            .due(Town.UNKNOWN, "to -1", x -> x.forward(0, 0, -1, 1))
            .due(Town.UNKNOWN, "to 5 of five", x -> x.forward(0, 0, 5, 1))
            .due(Town.UNKNOWN, "UNKNOWN before OUTSIDE", x -> x.forward(0, 100, 5, 0))
            .due(Town.UNKNOWN, "UNKNOWN before OUTSIDE", x -> x.forward(9, -1, 9, 0))
            .due(Town.OUTSIDE, "person -1", x -> x.forward(0, -1, 1, 1))
            .due(Town.OUTSIDE, "person 100", x -> x.forward(0, 100, 1, 1))
            .due(Town.OUTSIDE, "until today", x -> x.forward(0, 0, 1, 0))
            .due(Town.OUTSIDE, "until before", x -> x.forward(0, 0, 1, -1))
            .due(Town.OUTSIDE, "until 100001", x -> x.forward(0, 0, 1, 100001))
            .due(Town.OUTSIDE, "both points are one", x -> x.forward(0, 0, 0, 1))
            .due(Town.OUTSIDE, "both points are the last one", x -> x.forward(4, 0, 4, 1))
            .changedNothing();
        PostHouse x = Town.built(0);
        Check.due("12: person 0, until tomorrow", x.forward(0, 0, 4, 1), 0);
        Check.due("12: person 99, the last day", x.forward(4, 99, 0, 100000), 1);
        Check.due("12: person 1", x.forward(0, 1, 1, 2), 2);
        Check.due("10: three orders", x.count(4), 3);
    }

    private static void promise13Hold() {
        new Refusals("13", () -> Town.built(0))
            .due(Town.UNKNOWN, "point -1", x -> x.hold(-1, 0, 1))
            .due(Town.UNKNOWN, "point 5 of five", x -> x.hold(5, 0, 1))
            .due(Town.UNKNOWN, "UNKNOWN before OUTSIDE", x -> x.hold(5, 100, 0))
            .due(Town.OUTSIDE, "person -1", x -> x.hold(0, -1, 1))
            .due(Town.OUTSIDE, "person 100", x -> x.hold(0, 100, 1))
            .due(Town.OUTSIDE, "until today", x -> x.hold(0, 0, 0))
            .due(Town.OUTSIDE, "until 100001", x -> x.hold(0, 0, 100001))
            .changedNothing();
        PostHouse x = Town.built(0);
        Check.due("13: person 0, until tomorrow", x.hold(0, 0, 1), 0);
        Check.due("13: person 99, the last day", x.hold(4, 99, 100000), 1);
        Check.due("13: its number among the orders", x.forward(0, 0, 1, 1) * 10 + x.hold(1, 0, 1), 23);
    }

    private static PostHouse withOrders(int orders) {
        PostHouse x = Town.built(0);
        for (int k = 0; k < orders; k++) Check.due("12, 13: order " + k, k % 2 == 0 ? x.hold(k % 5, 3, 9) : x.forward(k % 5, 3, (k + 1) % 5, 9), k);
        return x;
    }

    private static void promise12And13Room() {
        PostHouse x = withOrders(59);
        Check.due("12: the sixtieth", x.forward(0, 5, 1, 9), 59);
        new Refusals("12, 13", () -> withOrders(60))
            .due(Town.ROOM, "the 61st, a forwarding", h -> h.forward(0, 5, 1, 9))
            .due(Town.ROOM, "the 61st, a hold", h -> h.hold(0, 5, 9))
            .due(Town.UNKNOWN, "UNKNOWN before ROOM", h -> h.hold(5, 5, 9))
            .due(Town.OUTSIDE, "OUTSIDE before ROOM", h -> h.hold(0, 5, 0))
            .due(Town.UNKNOWN, "UNKNOWN before ROOM", h -> h.forward(0, 5, 5, 9))
            .due(Town.OUTSIDE, "OUTSIDE before ROOM", h -> h.forward(1, 5, 1, 9))
            .changedNothing();
        PostHouse y = withOrders(60);
        Town.goOn(y, 9);
        Check.due("13: orders whose day is over are kept", y.hold(0, 5, 19), Town.ROOM);
        Check.due("10: sixty", y.count(4), 60);
    }

    private static void promise12And13Days() {
        PostHouse x = Town.built(0);
        x.tick(1439);
        Check.due("12: the last minute of day 0", x.forward(0, 0, 1, 0), Town.OUTSIDE);
        Check.due("12: until day 1", x.forward(0, 0, 1, 1), 0);
        x.tick(1);
        Check.due("12: day 1 is today", x.forward(0, 0, 1, 1), Town.OUTSIDE);
        Check.due("13: day 1 is today", x.hold(0, 0, 1), Town.OUTSIDE);
        Check.due("13: until day 2", x.hold(0, 0, 2), 1);
    }

    private static void asked(String what, PostHouse x, int point, int person, int goal, int last) {
        Check.due("14: " + what, x.effective(point, person), goal);
        Check.due("15: " + what, x.lastPoint(point, person), last);
    }

    private static void promise14Persons() {
        PostHouse x = Town.built(0);
        asked("no order", x, 0, 7, 0, 0);
        x.forward(0, 7, 1, 9);
        asked("an order for him", x, 0, 7, 1, 1);
        asked("not for another one", x, 0, 8, 0, 0);
        asked("not for all", x, 0, 0, 0, 0);
        asked("not about another point", x, 1, 7, 1, 1);
        x.hold(2, 0, 9);
        asked("an order for all", x, 2, 7, Town.HELD, 2);
        asked("for all", x, 2, 0, Town.HELD, 2);
        asked("for person 99", x, 2, 99, Town.HELD, 2);
        x.forward(3, 99, 4, 9);
        asked("for person 99 alone", x, 3, 99, 4, 4);
        asked("not for person 98", x, 3, 98, 3, 3);
        x.forward(1, 7, 2, 9);
        asked("on and on for him, then held for all", x, 0, 7, Town.HELD, 2);
    }

    private static void promise14ToldLast() {
        PostHouse x = Town.built(0);
        x.hold(0, 0, 9);
        x.forward(0, 7, 1, 9);
        asked("told last, for him", x, 0, 7, 1, 1);
        asked("for all others", x, 0, 8, Town.HELD, 0);
        x.forward(0, 0, 2, 9);
        asked("told last, for all", x, 0, 7, 2, 2);
        asked("told last, for all", x, 0, 8, 2, 2);
        x.hold(0, 7, 1);
        asked("a hold told last", x, 0, 7, Town.HELD, 0);
        Town.goOn(x, 1);
        asked("what was told last is good no more", x, 0, 7, 2, 2);
    }

    private static void promise14Days() {
        PostHouse x = Town.built(0);
        x.tick(1438);
        x.hold(0, 0, 2);
        asked("from today", x, 0, 1, Town.HELD, 0);
        x.tick(1440);
        asked("on day 1", x, 0, 1, Town.HELD, 0);
        x.tick(1);
        asked("in the last minute of day 1", x, 0, 1, Town.HELD, 0);
        x.tick(1);
        asked("on day 2 no more", x, 0, 1, 0, 0);
    }

    private static void promise14Rings() {
        PostHouse x = Town.built(0);
        x.forward(0, 0, 1, 9);
        x.forward(1, 0, 0, 9);
        asked("a ring of two", x, 0, 1, Town.RING, 1);
        asked("from its other point", x, 1, 1, Town.RING, 0);
        x.forward(2, 0, 0, 9);
        asked("into a ring", x, 2, 1, Town.RING, 1);
        x.forward(1, 5, 3, 9);
        asked("out of it for him", x, 2, 5, 3, 3);
        x.hold(3, 5, 9);
        asked("to a hold", x, 2, 5, Town.HELD, 3);
        x.forward(3, 5, 4, 9);
        x.forward(4, 5, 3, 9);
        asked("to another ring", x, 2, 5, Town.RING, 4);
    }

    private static void promise14LongChain() {
        PostHouse x = new PostHouse();
        Town.book(x, "P1,A;S1,A,0,0,0;R1,A,0,100,999;" + points(100, 160));
        for (int p = 0; p < 60; p++) Check.due("12: forwarding " + p, x.forward(p, 0, p + 1, 9), p);
        asked("sixty forwardings", x, 0, 1, 60, 60);
        asked("the last of them", x, 59, 1, 60, 60);
        PostHouse y = new PostHouse();
        Town.book(y, "P1,A;S1,A,0,0,0;R1,A,0,100,999;" + points(100, 160));
        for (int p = 0; p < 60; p++) y.forward(p, 0, (p + 1) % 60, 9);
        asked("a ring of sixty", y, 0, 1, Town.RING, 59);
        asked("from within it", y, 30, 1, Town.RING, 29);
    }

    private static void promise14And15Refusals() {
        PostHouse x = Town.built(0);
        int[][] due = {{-1, 0, Town.UNKNOWN}, {5, 0, Town.UNKNOWN}, {5, 100, Town.UNKNOWN}, {-1, -1, Town.UNKNOWN}, {0, -1, Town.OUTSIDE}, {0, 100, Town.OUTSIDE},
            {4, 100, Town.OUTSIDE}, {0, 0, 0}, {4, 99, 4}, {0, Integer.MIN_VALUE, Town.OUTSIDE}, {Integer.MAX_VALUE, 0, Town.UNKNOWN}};
        for (int[] d : due) asked("of " + d[0] + " for " + d[1], x, d[0], d[1], d[2], d[2]);
        x.hold(0, 0, 9);
        Check.due("15: refused behind an asking", x.lastPoint(0, 1) * 1000 + x.lastPoint(0, 100), Town.OUTSIDE);
    }

    private static void promise16Find() {
        PostHouse x = new PostHouse();
        Town.book(x, "P1,A;P99999,B;P50000,C;");
        Check.due("16: code 1", x.find(1), 0);
        Check.due("16: code 99999", x.find(99999), 1);
        Check.due("16: code 50000", x.find(50000), 2);
        for (int code : new int[] {0, 2, -1, 100000, 49999, 50001, Integer.MIN_VALUE, Integer.MAX_VALUE}) Check.due("16: code " + code, x.find(code), Town.NONE);
    }

    private static void promise17PointAt() {
        PostHouse x = Town.built(0);
        Check.due("17: UNKNOWN -1", x.pointAt(-1, 0), Town.UNKNOWN);
        Check.due("17: UNKNOWN 5 of five", x.pointAt(5, 0), Town.UNKNOWN);
        Check.due("17: UNKNOWN before OUTSIDE", x.pointAt(5, 6), Town.UNKNOWN);
        Check.due("17: OUTSIDE -1", x.pointAt(0, -1), Town.OUTSIDE);
        Check.due("17: OUTSIDE 6", x.pointAt(0, 6), Town.OUTSIDE);
        Check.due("17: no round", x.pointAt(4, 5), Town.NONE);
        x.round(1, 0, 0);
        x.round(1, 0, 0);
        x.assign(4, 1);
        Check.due("17: its round", x.pointAt(4, 5), 1);
        Check.due("17: another one's", x.pointAt(3, 5), Town.NONE);
        int[] due = {2, 8, -3, 5, 1};
        for (int what = 0; what < 5; what++) Check.due("17: pointAt(4, " + what + ")", x.pointAt(4, what), due[what]);
    }

    private static void promise17Ways() {
        PostHouse x = new PostHouse();
        Town.book(x, "P1,A;S1,E,999,0,0;S1,N,0,999,1;S1,W,0,5,2;S1,D,5,0,3;R1,E,0,1,999;R1,N,0,1,999;R1,W,0,1,999;R1,D,0,1,999;"
            + "H1,E,999;H1,N,999;H1,W,999;H1,D,999;H1,E,1;H1,N,1;H1,W,1;H1,D,1;");
        int[][] due = {{1998, 0}, {0, 1998}, {-999, 5}, {5, -999}, {1000, 0}, {0, 1000}, {-1, 5}, {5, -1}};
        for (int p = 0; p < 8; p++) {
            Check.due("17: x of point " + p, x.pointAt(p, 2), due[p][0]);
            Check.due("17: y of point " + p, x.pointAt(p, 3), due[p][1]);
        }
    }
}
