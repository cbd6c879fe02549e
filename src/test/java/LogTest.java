/** Promises 1 to 10: a new object, the tape, the log and its disk, power. */
public final class LogTest {
    public static void main(String[] args) {
        newObject();
        tape();
        tapeIsUsedUp();
        blocks();
        longSync();
        cutSettings();
        tornBlocks();
        startAgain();
        records();
        counts();
        Check.finish();
    }

    private static void newObject() {
        PostHouse x = new PostHouse();
        Check.due("1: feed on an empty tape", x.feed(0, 0, 0, 0, 0), 20);
        for (int what = 0; what <= 17; what++) Check.due("1: count(" + what + ")", new PostHouse().count(what), 0);
        for (int block = 1; block <= 150; block += 149) for (int i = 0; i < 256; i += 2) Check.due("1: octet", x.octet(block, i), 0);
        Check.due("1: now", x.now(), 0);
        x.account(0);
        Check.due("1: power stays", x.tick(1) + x.sync(), 2);
    }

    private static void tape() {
        PostHouse x = new PostHouse();
        for (int k = 1; k <= 204; k++) Check.due("2: feed", x.feed(k, 0, 0, 0, 0), 20 * k);
        Check.raises("2: feed at 4080", IllegalStateException.class, () -> x.feed(1, 2, 3, 4, 5));
        Check.raises("3: end(4081)", IllegalArgumentException.class, () -> x.end(4081));
        Check.raises("3: end(-1)", IllegalArgumentException.class, () -> x.end(-1));
        x.end(4076);
        Check.due("2: feed at 4076", x.feed(1, 2, 3, 4, 5), 4096);
        Check.raises("2: feed at 4096", IllegalStateException.class, () -> x.feed(1, 2, 3, 4, 5));
        x.end(4096);
        x.end(4077);
        Check.raises("2: feed at 4077", IllegalStateException.class, () -> x.feed(1, 2, 3, 4, 5));
        x.end(0);
        Check.due("3: feed behind end(0)", x.feed('P' << 24 | '1' << 16 | ',' << 8 | 'A', ';' << 24, 0, 0, 0), 20);
        x.end(5);
        Check.due("2: bytes lie highest first", x.book(), 1);
    }

    private static void tapeIsUsedUp() {
        PostHouse x = new PostHouse();
        Town.lay(x, Sheets.latin("P1,A"));
        Check.due("11: a text that ends too early", x.book(), -1004);
        Check.due("11: the tape is used up by a refusal", x.feed(0, 0, 0, 0, 0), 20);
        Check.due("18: a refused sheet", x.sheet(7), Town.OUTSIDE);
        Check.due("18: it used the tape up", x.feed(0, 0, 0, 0, 0), 20);
        x.scan();
        Check.due("29: a refused scan used the tape up", x.feed(0, 0, 0, 0, 0), 20);
        x.tariff();
        Check.due("60: a refused tariff used the tape up", x.feed(0, 0, 0, 0, 0), 20);
        x.tick(1);
        x.cut(0, 0);
        x.sync();
        int down = x.book() + x.sheet(8) + x.tariff() + x.scan();
        Check.due("11, 18, 29, 60: refused as DOWN", down, 4 * Town.DOWN);
        Check.due("11: DOWN leaves the tape", x.feed(0, 0, 0, 0, 0), 40);
        x.start();
        Check.due("6: start leaves the tape", x.feed(0, 0, 0, 0, 0), 60);
    }

    private static int sum(PostHouse x, int block) {
        int s = 0;
        for (int i = 0; i < 252; i++) s = Integer.rotateLeft(s ^ x.octet(block, i), 3) * 0x85EBCA77;
        return s;
    }

    private static String bytes(PostHouse x, int block, int from, int to) {
        StringBuilder b = new StringBuilder();
        for (int i = from; i < to; i++) b.append(x.octet(block, i)).append(' ');
        return b.toString();
    }

    private static void blocks() {
        PostHouse x = new PostHouse();
        Check.due("4: sync without records", x.sync(), 0);
        Town.book(x, "P9,A;");
        x.round(0, -2, 300);
        x.tick(7);
        Check.due("10: records", x.count(16), 3);
        Check.due("10: their bytes", x.count(17), 8 + 13 + 5);
        Check.due("4: sync", x.sync(), 1);
        Check.due("10: none waits", x.count(16) + x.count(17), 0);
        Check.due("10: blocks used", x.count(15), 1);
        Check.due("4: head and records", bytes(x, 1, 0, 31), "0 1 1 26 1 0 5 80 57 44 65 59 11 0 0 0 0 255 255 255 254 0 0 1 44 40 0 0 0 7 0 ");
        int s = sum(x, 1);
        Check.due("4: sum", bytes(x, 1, 252, 256), (s >>> 24) + " " + (s >>> 16 & 255) + " " + (s >>> 8 & 255) + " " + (s & 255) + " ");
        x.tick(1);
        Check.due("4: a second sync", x.sync(), 1);
        Check.due("4: its block", bytes(x, 2, 0, 10), "0 2 1 5 40 0 0 0 1 0 ");
        for (int block = 0; block <= 151; block += 151) {
            int b = block;
            Check.raises("8: octet of no block", IndexOutOfBoundsException.class, () -> x.octet(b, 0));
            Check.raises("9: poke of no block", IndexOutOfBoundsException.class, () -> x.poke(b, 0, 1));
        }
        for (int i = -1; i <= 256; i += 257) {
            int at = i;
            Check.raises("8: octet of no byte", IndexOutOfBoundsException.class, () -> x.octet(1, at));
            Check.raises("9: poke of no byte", IndexOutOfBoundsException.class, () -> x.poke(1, at, 1));
        }
        Check.due("7: verify", x.verify(), Town.NONE);
        Check.due("9: poke takes the lowest byte", x.poke(2, 4, 0x7F05), 45);
        Check.due("8: octet of what was poked", x.octet(2, 4), 45);
        Check.due("7: verify finds it", x.verify(), 2);
        Check.due("9: poke", x.poke(1, 255, 255), ~s & 255);
        Check.due("7: verify finds the first", x.verify(), 1);
        Check.due("9: poke of 0", x.poke(1, 255, 256), ~s & 255);
    }

    private static void longSync() {
        PostHouse x = new PostHouse();
        for (int k = 0; k < 99; k++) x.tick(1);
        Check.due("10: 495 bytes wait", x.count(17), 495);
        Check.due("4: 495 bytes want two blocks", x.sync(), 2);
        Check.due("4: the first of them", bytes(x, 1, 0, 4), "0 1 0 248 ");
        Check.due("4: the last of them", bytes(x, 2, 0, 4), "0 2 1 247 ");
        Check.due("4: a record goes over the edge", bytes(x, 1, 249, 252) + bytes(x, 2, 4, 6), "40 0 0 0 1 ");
        Check.due("6: all is there again", Town.restart(x), 99);
        Check.due("75: the clock too", x.now(), 99);
        PostHouse y = new PostHouse();
        for (int k = 0; k < 31; k++) y.machine(2, 1, 1, 0);
        for (int k = 0; k < 4; k++) y.tick(1);
        y.machine(2, 1, 1, 0);
        Check.due("10: 564 bytes wait", y.count(17), 564);
        Check.due("4: they want three blocks", y.sync(), 3);
        PostHouse z = new PostHouse();
        for (int k = 0; k < 8; k++) z.machine(2, 1, 1, 0);
        for (int k = 0; k < 7; k++) z.wish(4, 0, true);
        for (int k = 0; k < 8; k++) z.machine(2, 1, 1, 0);
        Check.due("10: refused acts leave no record", z.count(16), 16);
    }

    private static void cutSettings() {
        PostHouse x = new PostHouse();
        Check.due("5: n", x.cut(-2, 0), Town.OUTSIDE);
        Check.due("5: n", x.cut(2001, 0), Town.OUTSIDE);
        Check.due("5: tear", x.cut(0, -1), Town.OUTSIDE);
        Check.due("5: tear", x.cut(Town.NONE, 256), Town.OUTSIDE);
        x.tick(1);
        Check.due("5: what was refused did not count", x.sync(), 1);
        Check.due("5: edges", x.cut(2000, 255) + x.cut(0, 0), 2);
        Check.due("5: NONE", x.cut(Town.NONE, 0), 1);
        x.tick(1);
        Check.due("5: NONE lets it stay", x.sync(), 1);
        Check.due("5: it is not an act", x.count(16), 0);
        x.cut(2, 5);
        x.tick(1);
        Check.due("5: block 0 from now", x.sync(), 1);
        x.tick(1);
        Check.due("5: block 1 from now", x.sync(), 1);
        Check.due("5: an empty sync writes none", x.sync(), 0);
        x.tick(1);
        Check.due("5: block 2 from now", x.sync(), Town.LOST);
        Check.due("5: then it is DOWN", x.cut(0, 0), Town.DOWN);
        Check.due("4: DOWN", x.sync(), Town.DOWN);
        Check.due("7: DOWN", x.verify(), Town.DOWN);
        Check.due("10: DOWN", x.count(99), Town.DOWN);
        Check.due("8: its first five bytes are new", bytes(x, 5, 0, 7), "0 5 1 5 40 0 0 ");
        Check.due("9: poke while it is DOWN", x.poke(150, 0, 3), 3);
        Check.due("6: four acts are done again", x.start(), 4);
        Check.due("6: and it is up", x.start(), Town.STATE);
        x.tick(1);
        Check.due("6: power is not set to go", x.sync(), 1);
    }

    private static void tornBlocks() {
        PostHouse x = new PostHouse();
        x.tick(3);
        x.cut(0, 255);
        x.sync();
        int s = sum(x, 1);
        Check.due("5: all but the last byte", bytes(x, 1, 250, 256), "0 0 " + (s >>> 24) + " " + (s >>> 16 & 255) + " " + (s >>> 8 & 255) + " 0 ");
        x.poke(1, 255, s & 255);
        Check.due("9: a TORN block stays TORN", x.start(), 0);
        Check.due("10: it is not used", x.count(15), 0);
        x.tick(4);
        Check.due("4: it is written whole", x.sync(), 1);
        Check.due("7: and right", x.verify(), Town.NONE);
        Check.due("6: and done again", Town.restart(x), 1);
        Check.due("75: what was lost is gone", x.now(), 4);

        PostHouse y = new PostHouse();
        for (int k = 0; k < 120; k++) y.tick(1);
        y.cut(1, 100);
        Check.due("4: power goes within a sync", y.sync(), Town.LOST);
        Check.due("4: a block of it was written", bytes(y, 1, 0, 4), "0 1 0 248 ");
        Check.due("6: a sync that is not all there counts for nothing", y.start(), 0);
        Check.due("10: nothing is used", y.count(15), 0);
    }

    private static void startAgain() {
        PostHouse x = Town.built(500);
        Check.due("6: it is not DOWN", x.start(), Town.STATE);
        x.sync();
        x.tick(100);
        x.sync();
        x.tick(1000);
        Check.due("6: what waited is lost", Town.restart(x), 4);
        Check.due("75: the clock", x.now(), 100);
        Check.due("10: nothing waits", x.count(16), 0);
        Check.due("58: the balance", x.balance(4), 500);
        x.poke(1, 50, 1);
        Check.due("6: a block that is not right", Town.restart(x), 0);
        Check.due("10: an empty house", x.count(0) + x.count(15) + x.now(), 0);
        PostHouse y = new PostHouse();
        for (int k = 1; k <= 3; k++) {
            y.tick(k);
            y.sync();
        }
        y.poke(2, 20, 1);
        Check.due("6: as far as each is right", Town.restart(y), 1);
        Check.due("75: the clock", y.now(), 1);
    }

    /** Changes a byte of a block and mends its sum. */
    private static void forge(PostHouse x, int block, int i, int octet) {
        x.poke(block, i, x.octet(block, i) ^ octet);
        int s = sum(x, block);
        for (int k = 0; k < 4; k++) x.poke(block, 252 + k, x.octet(block, 252 + k) ^ (s >>> 24 - 8 * k));
    }

    private static void records() {
        String[] what = {"no such act", "act 0", "n of 0", "n of 249", "a third byte of 2", "n of 5 where more come", "another number"};
        int[][] change = {{14, 41}, {14, 0}, {3, 0}, {3, 249}, {2, 2}, {2, 0}, {1, 2}};
        int[] done = {2, 2, 0, 0, 0, 0, 0};
        for (int k = 0; k < what.length; k++) {
            PostHouse x = new PostHouse();
            for (int t = 1; t <= 4; t++) x.tick(t);
            x.sync();
            forge(x, 1, change[k][0], change[k][1]);
            Check.due("7: " + what[k], x.verify(), done[k] > 0 ? Town.NONE : 1);
            Check.due("6: " + what[k], Town.restart(x), done[k]);
            Check.due("10: " + what[k], x.count(15), done[k] > 0 ? 1 : 0);
        }
        PostHouse long2 = new PostHouse();
        for (int k = 0; k < 60; k++) long2.tick(1);
        long2.sync();
        forge(long2, 1, 2, 2);
        Check.due("7: a third byte of 2 where 248 bytes are", long2.verify(), 1);
        Check.due("6: it is not right", Town.restart(long2), 0);
        PostHouse x = new PostHouse();
        x.tick(1);
        x.tick(2);
        x.sync();
        x.tick(4);
        x.sync();
        forge(x, 1, 4, 200);
        Check.due("6: the rest of its sync alone is passed over", Town.restart(x), 1);
        Check.due("75: the clock", x.now(), 4);
        PostHouse y = new PostHouse();
        y.tick(1);
        y.tick(2);
        y.tick(4);
        y.sync();
        forge(y, 1, 10, 9);
        Check.due("6: one that would be refused is passed over", Town.restart(y), 2);
        Check.due("75: the clock", y.now(), 5);
        PostHouse z = new PostHouse();
        z.tick(1);
        z.tick(2);
        z.sync();
        forge(z, 1, 3, 9);
        Check.due("6: too few bytes", Town.restart(z), 1);
        PostHouse w = Town.built(0);
        w.sync();
        w.wish(4, 1, true);
        w.tick(3);
        w.sync();
        forge(w, 2, 16, 2);
        Check.due("6: an argument that is neither true nor false", Town.restart(w), 2);
        PostHouse v = new PostHouse();
        Town.book(v, "P1,A;");
        v.tick(3);
        v.sync();
        forge(v, 1, 5, 16);
        Check.due("6: a tape that is too long", Town.restart(v), 0);
        PostHouse u = new PostHouse();
        Town.book(u, "P1,A;");
        u.tick(3);
        u.sync();
        forge(u, 1, 9, '!');
        Check.due("6: a text with a fault is passed over", Town.restart(u), 1);
    }

    private static void counts() {
        PostHouse x = Town.built(300);
        x.hold(0, 0, 9);
        x.forward(1, 0, 2, 9);
        x.forward(2, 0, 1, 9);
        int item = Town.posted(x, 0, 0, 1, 0);
        x.round(0, 0, 0);
        x.round(1, 0, 0);
        x.leg(0, 1, 0, 1, 1);
        x.bag(0, 1);
        x.bag(1, 0);
        x.bag(1, 0);
        x.locker(0, 5);
        x.account(2);
        x.order(4, 5, 100);
        x.wish(4, 8, true);
        x.lose(item);
        int[] due = {2, 3, 3, 5, 3, 1, 2, 1, 3, 1, 2, 2, 1, 3, 1, 0, 20};
        for (int what = 0; what < due.length; what++) Check.due("10: count(" + what + ")", x.count(what), due[what]);
        Check.due("10: the bytes that wait", x.count(17), 226 + Town.BOOK.length());
        x.sync();
        Check.due("10: blocks used", x.count(15), 2);
        Check.due("10: OUTSIDE", x.count(-1) + x.count(18), 2 * Town.OUTSIDE);
    }
}
