/** A small town for the tests: two places, three streets, five points, and what is needed to try a promise in it. */
final class Town {
    static final int NONE = -1, UNKNOWN = -101, OUTSIDE = -102, STATE = -103, ROOM = -104, DOWN = -105, LOST = -106;
    static final int HELD = -110, RING = -111, NOT_HIM = -112, NO_PROOF = -113, WRONG_SUM = -114, BARRED = -115, POOR = -116;

    /** Points 0 and 1 in LIND, 2 in TOR (place 0), 3 and 4 in KAI (place 1). */
    static final String BOOK = "P100,MITTE;P7,HAFEN;S100,LIND,10,20,0;S100,TOR,0,0,1;S7,KAI,5,5,2;"
        + "R100,LIND,0,1,20;R100,TOR,1,1,9;R7,KAI,2,2,10;H100,LIND,3;H100,LIND,12;H100,TOR,5;H7,KAI,4;H7,KAI,8;";
    static final String TARIFF = "K0,50=80;K0,500=150;K1,1000=300;K2,1000=650;V1=250;V2=50;";

    private Town() { }

    /** Makes the tape's bytes just these. */
    static void lay(PostHouse x, byte[] bytes) {
        x.end(0);
        for (int at = 0; at < bytes.length; at += 20) {
            if (at + 20 > 4096) {
                at = 4076;
                x.end(at);
            }
            int[] w = Sheets.words(bytes, at);
            x.feed(w[0], w[1], w[2], w[3], w[4]);
        }
        x.end(bytes.length);
    }

    static int book(PostHouse x, String text) {
        lay(x, Sheets.latin(text));
        return x.book();
    }

    static int tariff(PostHouse x, String text) {
        lay(x, Sheets.latin(text));
        return x.tariff();
    }

    /** The town with account 4 (its home is point 3, in place 1), which has so many cents, and no tariff. */
    static PostHouse built(int cents) {
        PostHouse x = new PostHouse();
        book(x, BOOK);
        x.account(3);
        if (cents > 0) x.deposit(4, cents);
        return x;
    }

    /** An item for point 0 that is IN at place 0. */
    static int posted(PostHouse x, int kind, int services, int person, int cents) {
        int item = x.item(kind, 40, services, 4, person, cents);
        x.address(item, 0);
        x.post(item, 0);
        return item;
    }

    /** Puts an item that is IN OUT, by a round for its goal's point that is made when there is none. */
    static void bringOut(PostHouse x, int item) {
        int point = x.about(item, 12);
        int round = x.pointAt(point, 5);
        if (round == NONE) {
            round = x.round(x.pointAt(point, 4), 0, 0);
            x.assign(point, round);
        }
        x.sort(round);
        x.out(round);
    }

    /** The key of an item's box, by the document's words over numbers that do not wrap. */
    static int key(int item) {
        long product = (item + 1L) * 1103515245L + 12345L & 0xFFFFFFFFL;
        return 1000 + (int) ((product >> 16) % 9000);
    }

    /** Lets power go and starts the house again from what was written. */
    static int restart(PostHouse x) {
        x.cut(0, 0);
        x.machine(2, 1, 1, 0);
        x.sync();
        return x.start();
    }

    static void goOn(PostHouse x, int days) {
        for (int k = 0; k < days; k++) x.tick(1440);
    }
}
