import java.util.Random;

/** Promises 22 to 30: items, their addresses, clerks, goals and bars. */
public final class ItemTest {
    public static void main(String[] args) {
        told();
        addressed();
        takenFromSheets();
        clerks();
        posted();
        aboutItems();
        goals();
        bars();
        scans();
        mendedStays();
        threeHundred();
        Check.finish();
    }

    private static void told() {
        PostHouse x = Town.built(0);
        Check.due("22: UNKNOWN", x.item(9, 0, 9, 3, 0, 0) + x.item(0, 1, 0, 5, 1, 0) + x.item(0, 1, 0, -1, 1, 0), 3 * Town.UNKNOWN);
        int[][] outside = {{-1, 1, 0, 4, 1, 0}, {4, 1, 0, 4, 1, 0}, {0, 0, 0, 4, 1, 0}, {0, 30001, 0, 4, 1, 0}, {0, 1, -1, 4, 1, 0}, {0, 1, 8, 4, 1, 0},
            {0, 1, 0, 4, 0, 0}, {0, 1, 0, 4, 100, 0}, {0, 1, 0, 4, 1, 1}, {0, 1, 5, 4, 1, 1}, {0, 1, 0, 4, 1, -1}, {0, 1, 2, 4, 1, 0},
            {0, 1, 2, 4, 1, 100001}, {0, 1, 7, 4, 1, 0}};
        for (int[] a : outside) Check.due("22: OUTSIDE", x.item(a[0], a[1], a[2], a[3], a[4], a[5]), Town.OUTSIDE);
        Check.due("10: no item", x.count(5), 0);
        Check.due("22: the least", x.item(0, 1, 0, 4, 1, 0), 0);
        Check.due("22: the most", x.item(3, 30000, 7, 4, 99, 100000), 1);
        Check.due("22: one cent", x.item(1, 5, 2, 4, 9, 1), 2);
    }

    private static void addressed() {
        PostHouse x = Town.built(0);
        for (int k = 0; k < 3; k++) x.item(0, 1, 0, 4, 1, 0);
        Check.due("23: UNKNOWN", x.address(3, 0) + x.address(-1, 0) + x.address(0, 5) + x.address(0, -1), 4 * Town.UNKNOWN);
        Check.due("23: TOLD", x.address(0, 4), 1);
        Check.due("27: address", x.about(0, 7), 4);
        Check.due("23: it is settled", x.address(0, 3), Town.STATE);
        x.post(1, 0);
        Check.due("23: IN", x.address(1, 2), 1);
        x.lose(2);
        Check.due("23: LOST", x.address(2, 2), Town.STATE);
    }

    private static void show(PostHouse x, String... lines) {
        Town.lay(x, Sheets.draw(60, 1, 2, lines));
        x.sheet(60);
    }

    private static void takenFromSheets() {
        PostHouse x = Town.built(0);
        for (int k = 0; k < 4; k++) x.item(0, 1, 0, 4, 1, 0);
        Check.due("24: UNKNOWN", x.take(4) + x.take(-1), 2 * Town.UNKNOWN);
        Check.due("24: there was no sheet", x.take(0), Town.STATE);
        show(x, "LIND 12", "100");
        Check.due("24: it told a point", x.take(0), 1);
        Check.due("27: address", x.about(0, 7), 1);
        Check.due("24: settled", x.take(0), Town.STATE);
        Check.due("24: the same sheet for another item", x.take(1), 1);
        show(x, "NIRGENDS 12", "100");
        Check.due("24: it told none", x.take(2), 0);
        Check.due("27: doubtful", x.about(2, 13), 1);
        Check.due("27: no address", x.about(2, 7), Town.NONE);
        show(x, "LIND 12", "100");
        Check.due("24: doubtful", x.take(2), Town.STATE);
        Check.due("23: doubtful no more", x.address(2, 3) + x.about(2, 13), 1);
        x.post(3, 0);
        Check.due("24: IN", x.take(3), 1);
        int lost = x.item(0, 1, 0, 4, 1, 0);
        x.lose(lost);
        Check.due("24: LOST", x.take(lost), Town.STATE);
    }

    /** A new item whose address is doubtful. */
    private static int doubtful(PostHouse x) {
        int item = x.item(0, 1, 0, 4, 1, 0);
        x.take(item);
        return item;
    }

    private static void clerks() {
        PostHouse x = Town.built(0);
        Town.lay(x, new byte[8]);
        x.sheet(8);
        int a = doubtful(x);
        Check.due("25: UNKNOWN", x.clerk(9, 0, 0) + x.clerk(a, 10, 5) + x.clerk(a, 0, -2), 3 * Town.UNKNOWN);
        Check.due("25: OUTSIDE", x.clerk(a, 10, 0) + x.clerk(a, -1, 0), 2 * Town.OUTSIDE);
        Check.due("25: the first one", x.clerk(a, 0, 4), 0);
        Check.due("25: this clerk told", x.clerk(a, 0, 4) + x.clerk(a, 0, 3), 2 * Town.STATE);
        Check.due("25: OUTSIDE goes before it", x.clerk(a, 10, 4), Town.OUTSIDE);
        Check.due("25: two the same", x.clerk(a, 9, 4), 1);
        Check.due("27: settled", x.about(a, 7) * 10 + x.about(a, 13), 40);
        Check.due("25: not doubtful", x.clerk(a, 5, 4), Town.STATE);
        int b = doubtful(x);
        Check.due("25: others for another item", x.clerk(b, 0, 1) + x.clerk(b, 1, 2), 0);
        Check.due("25: the third one as the second", x.clerk(b, 2, 2), 1);
        Check.due("27: that point", x.about(b, 7), 2);
        int c = doubtful(x);
        Check.due("25: three", x.clerk(c, 0, 1) + x.clerk(c, 1, Town.NONE), 0);
        Check.due("25: and no two the same", x.clerk(c, 2, 2), 2);
        Check.due("27: unreadable", x.about(c, 13), 2);
        Check.due("24: unreadable", x.take(c), Town.STATE);
        Check.due("25: unreadable", x.clerk(c, 3, 2), Town.STATE);
        Check.due("23: unreadable no more", x.address(c, 2) + x.about(c, 13), 1);
        int d = doubtful(x);
        Check.due("25: NONE", x.clerk(d, 7, Town.NONE), 0);
        Check.due("25: and NONE", x.clerk(d, 8, Town.NONE), 2);
        Check.due("27: unreadable", x.about(d, 13) + x.about(d, 7), 1);
        int e = doubtful(x);
        Check.due("25: the third one as the first", x.clerk(e, 4, 3) + x.clerk(e, 5, Town.NONE) + x.clerk(e, 6, 3), 1);
        int f = doubtful(x);
        x.lose(f);
        Check.due("25: also of what is LOST", x.clerk(f, 0, 0), 0);
        int g = x.item(0, 1, 0, 4, 1, 0);
        Check.due("25: not doubtful yet", x.clerk(g, 0, 0), Town.STATE);
        x.clerk(doubtful(x), 1, 0);
        x.sync();
        Town.restart(x);
        Check.due("6, 25: what was told is told again", x.clerk(7, 1, 0), Town.STATE);
        Check.due("6, 25: and counts", x.clerk(7, 2, 0), 1);
    }

    private static void posted() {
        PostHouse x = Town.built(0);
        x.item(0, 1, 0, 4, 1, 0);
        Check.due("26: UNKNOWN", x.post(1, 0) + x.post(0, 2) + x.post(0, -1), 3 * Town.UNKNOWN);
        Check.due("26: IN", x.post(0, 1), 1);
        Check.due("27: state and place", x.about(0, 0) * 10 + x.about(0, 8), 11);
        Check.due("26: IN already", x.post(0, 1), Town.STATE);
        x.item(0, 1, 0, 4, 1, 0);
        x.lose(1);
        Check.due("26: LOST", x.post(1, 1), Town.STATE);
    }

    private static String all(PostHouse x, int item) {
        StringBuilder b = new StringBuilder();
        for (int what = 0; what <= 16; what++) b.append(x.about(item, what)).append(' ');
        return b.toString();
    }

    private static void aboutItems() {
        PostHouse x = Town.built(9000);
        Town.tariff(x, Town.TARIFF);
        x.item(2, 900, 3, 4, 12, 777);
        Check.due("27: when it is told", all(x, 0), "0 2 900 3 4 12 777 -1 -1 -1 0 -1 -1 0 -1 -1 1827 ");
        x.frank(0);
        x.address(0, 3);
        x.post(0, 0);
        Check.due("27: when it is IN", all(x, 0), "1 2 900 3 4 12 777 3 0 -1 0 950 3 0 -1 -1 777 ");
        x.bag(1, 0);
        x.bag(0, 1);
        x.into(1, 0);
        Check.due("27: in a bag", all(x, 0), "2 2 900 3 4 12 777 3 0 1 0 950 3 0 -1 -1 777 ");
        Check.due("27: UNKNOWN", x.about(1, 99) + x.about(-1, 0), 2 * Town.UNKNOWN);
        Check.due("27: OUTSIDE", x.about(0, 17) + x.about(0, -1), 2 * Town.OUTSIDE);
        int a = Town.posted(x, 0, 0, 5, 0);
        Town.bringOut(x, a);
        x.tick(1440);
        x.miss(a);
        Check.due("27: HELD", all(x, a), "6 0 40 0 4 5 0 0 0 -1 0 -1 0 0 8 -1 180 ");
        x.refuse(a);
        Check.due("27: GOING BACK", all(x, a), "1 0 40 0 4 5 0 0 0 -1 1 -1 3 0 -1 -1 180 ");
        x.lose(0);
        Check.due("27: LOST", all(x, 0), "8 2 900 3 4 12 777 3 0 -1 0 950 3 0 -1 -1 777 ");
    }

    private static void goals() {
        PostHouse x = Town.built(0);
        int a = x.item(0, 1, 0, 4, 6, 0);
        Check.due("27: without an address", x.about(a, 12), Town.NONE);
        x.address(a, 0);
        x.forward(0, 6, 1, 2);
        x.forward(1, 0, 4, 2);
        x.hold(4, 7, 9);
        Check.due("27: forwarded twice", x.about(a, 12), 4);
        x.hold(4, 6, 2);
        Check.due("27: a hold", x.about(a, 12), Town.HELD);
        x.forward(4, 6, 0, 2);
        Check.due("27: a ring", x.about(a, 12), Town.RING);
        Town.goOn(x, 2);
        Check.due("27: its goal today", x.about(a, 12), 0);
        x.forward(3, 0, 2, 99);
        x.post(a, 0);
        Town.bringOut(x, a);
        x.refuse(a);
        Check.due("27: the home of its account is not asked on", x.about(a, 12), 3);
    }

    private static int times(int a, int b) {
        int product = 0;
        for (int bit = 3; bit >= 0; bit--) {
            product <<= 1;
            if ((product & 16) != 0) product ^= 0b10011;
            if ((b >> bit & 1) != 0) product ^= a;
        }
        return product;
    }

    private static void bars() {
        PostHouse x = Town.built(0);
        for (int k = 0; k < 19; k++) x.item(k % 4, 30000 - k, k % 8 & 5, 4, 1, 0);
        x.address(18, 4);
        // 18 is 0 1 2; kind 2; address 5; services 0; 29982 modulo 4096 is 1310.
        int[] told = {0, 1, 2, 2, 0, 0, 5, 0, 5, 1, 14};
        for (int k = 0; k < 11; k++) Check.due("28: bar(18, " + k + ")", x.bar(18, k), told[k]);
        int[] without = {0, 0, 5, 1, 0, 0, 0, 5, 29995 % 4096 / 256, 29995 / 16 % 16, 29995 % 16};
        for (int k = 0; k < 11; k++) Check.due("28: bar(5, " + k + ")", x.bar(5, k), without[k]);
        for (int item = 0; item < 19; item++) {
            byte[] row = row(x, item);
            for (int a : new int[] {2, 4, 8, 3}) {
                int sum = 0;
                for (int k = 0; k < 15; k++) sum = times(sum, a) ^ row[k];
                Check.due("28: the sum for " + a, sum, 0);
            }
        }
        Check.due("28: UNKNOWN", x.bar(19, 99) + x.bar(-1, 0), 2 * Town.UNKNOWN);
        Check.due("28: OUTSIDE", x.bar(0, 15) + x.bar(0, -1), 2 * Town.OUTSIDE);
    }

    private static byte[] row(PostHouse x, int item) {
        byte[] row = new byte[15];
        for (int k = 0; k < 15; k++) row[k] = (byte) x.bar(item, k);
        return row;
    }

    private static int scan(PostHouse x, byte[] row) {
        Town.lay(x, row);
        return x.scan();
    }

    private static PostHouse twenty() {
        PostHouse x = Town.built(0);
        Check.due("30: before any", x.mended(), Town.NONE);
        for (int k = 0; k < 20; k++) x.item(1, 1000 + k, 0, 4, 1, 0);
        return x;
    }

    private static void scans() {
        PostHouse x = twenty();
        Random random = new Random(5);
        byte[] right = row(x, 17);
        Check.due("29: a right row", scan(x, right), 17);
        Check.due("30: nothing mended", x.mended(), 0);
        for (int k = 0; k < 15; k++) {
            x = twenty();
            byte[] one = right.clone();
            one[k] ^= 1 + random.nextInt(15);
            Check.due("29: one symbol differs", scan(x, one), 17);
            Check.due("30: one mended", x.mended(), 1);
            for (int j = 0; j < k; j++) {
                byte[] two = one.clone();
                two[j] ^= 1 + random.nextInt(15);
                Check.due("29: two symbols differ", scan(x, two), 17);
                Check.due("30: two mended", x.mended(), 2);
            }
        }
        x = twenty();
        byte[] high = right.clone();
        for (int k = 0; k < 15; k++) high[k] += 16 * k;
        Check.due("29: modulo 16", scan(x, high), 17);
        Check.due("30: nothing mended", x.mended(), 0);
        Check.due("29: the row of all 0s is item 0's by its number", scan(x, new byte[15]), 0);
        int far = 0;
        for (int k = 0; k < 200; k++) {
            if (k % 50 == 0) x = twenty();
            byte[] chance = new byte[15];
            random.nextBytes(chance);
            int item = scan(x, chance);
            if (x.mended() == Town.NONE) {
                far++;
                Check.due("29: no such row", item, Town.NONE);
            }
        }
        Check.due("30: some rows are too far from all", far > 20 ? 1 : 0, 1);
    }

    private static void mendedStays() {
        PostHouse x = Town.built(0);
        for (int k = 0; k < 3; k++) x.item(0, 1, 0, 4, 1, 0);
        byte[] row = row(x, 2);
        Check.due("29: fourteen bytes", scan(x, new byte[14]), Town.OUTSIDE);
        row[3] ^= 1;
        scan(x, row);
        Check.due("29: sixteen bytes", scan(x, new byte[16]), Town.OUTSIDE);
        Check.due("30: a refused scan changes nothing", x.mended(), 1);
        Check.due("29: it is no act", x.count(16), 2 + 3);
        x.cut(0, 0);
        x.sync();
        Check.due("30: DOWN", x.mended(), Town.DOWN);
        x.start();
        Check.due("30: it stays over start()", x.mended(), 1);
        Check.due("29: no such item now", scan(x, row), Town.NONE);
        Check.due("30: but such a row", x.mended(), 1);
    }

    private static void threeHundred() {
        PostHouse x = Town.built(0);
        for (int k = 0; k < 300; k++) Check.due("22: its number", x.item(0, 1, 0, 4, 1, 0), k);
        Check.due("22: 300 items", x.item(0, 1, 0, 4, 1, 0), Town.ROOM);
        Check.due("22: OUTSIDE is told first", x.item(0, 1, 0, 4, 100, 0), Town.OUTSIDE);
        Check.due("28: 299 is 1 2 11", x.bar(299, 0) * 256 + x.bar(299, 1) * 16 + x.bar(299, 2), 299);
        Check.due("29: its bars", scan(x, row(x, 299)), 299);
    }
}
