import java.util.Arrays;
import java.util.List;

/** Promises 1 to 10, edge by edge: a new object, the tape, the log on its disk, power. */
public final class Promise01To10Test {
    private static final byte[] TICK = Disk.record(40, 1);

    public static void main(String[] args) {
        promise1NewObject();
        promise1DiskOfNothing();
        promise1PowerStays();
        promise2TwentyBytes();
        promise2FullTape();
        promise2TapeUsedUp();
        promise2TapeLeft();
        promise3End();
        promise3ExceptionChangesNothing();
        promise4BlocksOfBytes();
        promise4Bytes();
        promise4ZerosBehindTheRecords();
        promise4LogFull();
        promise4Lost();
        promise5Refusals();
        promise5Tear();
        promise5WhichBlock();
        promise5WithinASync();
        promise6Start();
        promise6SyncOfSomeBlocks();
        promise6NoRecord();
        promise6TooFewBytes();
        promise6TooFewBytesBehindAnother();
        promise6TrueOrFalse();
        promise6Tapes();
        promise6LongTape();
        promise6PassedOver();
        promise6RoomIsNotAsked();
        promise7Right();
        promise7First();
        promise8And9Places();
        promise9Poke();
        promise10Counts();
        promise10Records();
        promise10EveryAct();
        promise6EveryAct();
        promise6NothingElseIsLeft();
        Check.finish();
    }

    private static void promise1NewObject() {
        PostHouse x = new PostHouse();
        for (int what = 0; what <= 17; what++) Check.due("1: count(" + what + ")", x.count(what), 0);
        for (int account = 0; account <= 3; account++) Check.due("1: balance(" + account + ")", x.balance(account), 0);
        Check.due("1: minute 0", x.now(), 0);
        Check.due("1: no sheet", x.read(), Town.NONE);
        Check.due("1: no line", x.textLine(0, 0), Town.NONE);
        Check.due("1: no sign", x.sign(0, 0, 0), Town.NONE);
        Check.due("1: nothing mended", x.mended(), Town.NONE);
        Check.due("1: no passes", x.passes(), 0);
        Check.due("1: nothing wrong", x.wrong(0), Town.NONE);
        Check.due("1: no booking", x.entry(0, 0), Town.NONE);
        Check.due("1: no notice", x.notice(0, 0), Town.NONE);
        Check.due("1: no place", x.find(0), Town.NONE);
        Check.due("1: no customer", x.balance(4), Town.UNKNOWN);
        Check.due("1: no block", x.verify(), Town.NONE);
        Check.due("1: audit", x.audit(), 0);
        Check.due("1: nothing to write", x.sync(), 0);
        Check.due("1: not DOWN", x.start(), Town.STATE);
        Check.raises("1: the tape is empty", IllegalArgumentException.class, () -> x.end(1));
        x.end(0);
        Check.due("1: the tape is empty", x.feed(0, 0, 0, 0, 0), 20);
    }

    private static void promise1DiskOfNothing() {
        for (int block = 1; block <= 150; block++) {
            PostHouse x = new PostHouse();
            int all = 0;
            for (int i = 0; i < 256; i++) all |= x.octet(block, i);
            Check.due("1: block " + block, all, 0);
        }
    }

    private static void promise1PowerStays() {
        PostHouse x = new PostHouse();
        for (int k = 1; k <= 150; k++) {
            x.tick(1);
            Check.due("1: power stays at block " + k, x.sync(), 1);
        }
        Check.due("10: 150 blocks are used", x.count(15), 150);
        Check.due("7: all right", x.verify(), Town.NONE);
    }

    private static void promise2TwentyBytes() {
        PostHouse x = new PostHouse();
        Check.due("2: twenty bytes", x.feed(0x01020304, 0x05060708, 0x090A0B0C, 0x0D0E0F10, 0x11121314), 20);
        Check.due("2: come behind the tape", x.feed(0x15161718, 0x191A1B1C, 0x1D1E1F20, 0x21222324, 0x25262728), 40);
        x.sheet(20);
        x.feed(-1, Integer.MIN_VALUE, Integer.MAX_VALUE, -2, 255);
        x.sheet(20);
        x.sync();
        StringBuilder due = new StringBuilder();
        for (int k = 1; k <= 40; k++) due.append(k).append(' ');
        Check.due("2: each number's highest byte first", Disk.bytes(x, 1, 11, 51), due.toString());
        Check.due("2: of numbers below 0, too", Disk.bytes(x, 1, 58, 78), "255 255 255 255 128 0 0 0 127 255 255 255 255 255 255 254 0 0 0 255 ");
    }

    private static void promise2FullTape() {
        PostHouse x = new PostHouse();
        for (int k = 1; k <= 204; k++) Check.due("2: feed " + k, x.feed(k, k, k, k, k), 20 * k);
        Check.raises("2: 4100 would be too many", IllegalStateException.class, () -> x.feed(-1, -1, -1, -1, -1));
        x.end(4077);
        Check.raises("2: 4097 would be too many", IllegalStateException.class, () -> x.feed(-1, -1, -1, -1, -1));
        x.end(4076);
        Check.due("2: 4096 are not", x.feed(7, 7, 7, 7, 7 << 24 | 77), 4096);
        Check.raises("2: one more number at 4096", IllegalStateException.class, () -> x.feed(-1, -1, -1, -1, -1));
        x.end(4096);
        Check.raises("3: 4097", IllegalArgumentException.class, () -> x.end(4097));
        Check.due("18: a tape of 4096 is read", x.sheet(128), 1);
        Check.due("10: 4096 bytes and 7", x.count(17), 4103);
        Check.due("4: seventeen blocks", x.sync(), 17);
        Check.due("2: what was refused did not come", Disk.bytes(x, 17, 119, 140), "0 0 0 7 0 0 0 7 0 0 0 7 0 0 0 7 7 0 0 77 0 ");
        Check.due("2: then the tape is empty", x.feed(0, 0, 0, 0, 0), 20);
    }

    private static void used(String name, PostHouse x, long got, long due) {
        Check.due(name, got, due);
        Check.due(name + ": it used the tape up", x.feed(9, 9, 9, 9, 9), 20);
        x.end(0);
    }

    private static void promise2TapeUsedUp() {
        PostHouse x = new PostHouse();
        Town.lay(x, Sheets.latin("P5,A;"));
        used("11: a book", x, x.book(), 1);
        Town.lay(x, Sheets.latin("P5,A;"));
        used("11: a text with a fault", x, x.book(), -1000);
        Town.lay(x, Sheets.latin("V1=5;"));
        used("60: a tariff", x, x.tariff(), 1);
        Town.lay(x, Sheets.latin("V1=5"));
        used("60: a text with a fault", x, x.tariff(), -1004);
        Town.lay(x, new byte[16]);
        used("18: a sheet", x, x.sheet(8), 1);
        Town.lay(x, new byte[16]);
        used("18: a width that is OUTSIDE", x, x.sheet(7), Town.OUTSIDE);
        Town.lay(x, new byte[17]);
        used("18: no whole rows", x, x.sheet(8), Town.OUTSIDE);
        Town.lay(x, new byte[15]);
        used("29: bars", x, x.scan(), Town.NONE);
        Town.lay(x, new byte[14]);
        used("29: not fifteen bytes", x, x.scan(), Town.OUTSIDE);
        for (int k = x.count(15); k < 150; k++) {
            x.tick(1);
            x.sync();
        }
        Town.lay(x, Sheets.latin("P6,A;"));
        used("11: no room in the log", x, x.book(), Town.ROOM);
        Town.lay(x, Sheets.latin("V1=5;"));
        used("60: no room in the log", x, x.tariff(), Town.ROOM);
        Town.lay(x, new byte[16]);
        used("18: no room in the log", x, x.sheet(8), Town.ROOM);
    }

    private static void promise2TapeLeft() {
        PostHouse x = Town.built(50);
        Town.lay(x, Sheets.latin("P8,X;"));
        x.tick(1);
        x.hold(0, 0, 5);
        x.item(0, 1, 0, 4, 1, 0);
        x.post(0, 0);
        x.sort(0);
        x.bar(0, 3);
        x.price(0);
        x.mended();
        x.read();
        x.machine(1, 1, 1, 1);
        x.sync();
        x.cut(0, 30);
        x.tick(1);
        x.sync();
        Check.due("2: feed while it is DOWN", x.feed(1, 2, 3, 4, 5), 25);
        x.end(5);
        Check.due("11: DOWN", x.book(), Town.DOWN);
        Check.due("18: DOWN", x.sheet(8), Town.DOWN);
        Check.due("29: DOWN", x.scan(), Town.DOWN);
        Check.due("60: DOWN", x.tariff(), Town.DOWN);
        Check.due("6: start does its acts again", x.start(), 7);
        Check.due("11: the tape is there still", x.book(), 1);
    }

    private static void promise3End() {
        PostHouse x = new PostHouse();
        x.end(0);
        Check.raises("3: end(1) of an empty tape", IllegalArgumentException.class, () -> x.end(1));
        x.feed('P' << 24 | '1' << 16 | ',' << 8 | 'A', ';' << 24 | 'P' << 16, 0, 0, 0);
        Check.raises("3: end(-1)", IllegalArgumentException.class, () -> x.end(-1));
        Check.raises("3: end(21)", IllegalArgumentException.class, () -> x.end(21));
        Check.raises("3: the least number", IllegalArgumentException.class, () -> x.end(Integer.MIN_VALUE));
        Check.raises("3: the greatest number", IllegalArgumentException.class, () -> x.end(Integer.MAX_VALUE));
        x.end(20);
        x.end(6);
        Check.raises("3: end(7) of six", IllegalArgumentException.class, () -> x.end(7));
        x.end(5);
        Check.due("3: cut behind its first five bytes", x.book(), 1);
        Check.raises("3: end(1) of a tape that is used up", IllegalArgumentException.class, () -> x.end(1));
    }

    private static void promise3ExceptionChangesNothing() {
        PostHouse x = new PostHouse();
        Town.lay(x, Sheets.latin("P1,A;P2,B;"));
        Check.raises("3: end(11) of ten", IllegalArgumentException.class, () -> x.end(11));
        Check.raises("3: end(-1)", IllegalArgumentException.class, () -> x.end(-1));
        Check.due("3: what throws changes nothing", x.book(), 2);
        Town.lay(x, Sheets.latin("P3,A;P4,B;"));
        x.end(0);
        Check.due("3: end(0) leaves nothing", x.book(), -1000);
        Town.lay(x, Sheets.latin("P3,A;P4,B;"));
        x.end(5);
        x.feed('P' << 24 | '5' << 16 | ',' << 8 | 'C', ';' << 24, 0, 0, 0);
        x.end(10);
        Check.due("2: what comes is behind what was cut", x.book(), 2);
        Check.due("16: the place that was cut away", x.find(4), Town.NONE);
        Check.due("16: the place that came", x.find(5), 3);
    }

    /** Lets records of just so many bytes wait: 5 by a tick, 9 by a device. */
    private static void wait(PostHouse x, int bytes) {
        int devices = 0;
        while ((bytes - 9 * devices) % 5 != 0) devices++;
        for (int k = 0; k < devices; k++) x.device(0, 0);
        for (int k = 9 * devices; k < bytes; k += 5) x.tick(1);
        Check.due("10: bytes that wait", x.count(17), bytes);
    }

    private static void promise4BlocksOfBytes() {
        int[][] due = {{5, 1, 5}, {247, 1, 247}, {248, 1, 248}, {249, 2, 1}, {253, 2, 5}, {495, 2, 247}, {496, 2, 248}, {497, 3, 1}, {744, 3, 248}, {745, 4, 1}};
        for (int[] d : due) {
            PostHouse x = new PostHouse();
            wait(x, d[0]);
            Check.due("4: " + d[0] + " bytes", x.sync(), d[1]);
            for (int block = 1; block < d[1]; block++) Check.due("4: not the last one", Disk.bytes(x, block, 0, 4), "0 " + block + " 0 248 ");
            Check.due("4: the last one", Disk.bytes(x, d[1], 0, 4), "0 " + d[1] + " 1 " + d[2] + " ");
            Check.due("10: blocks used", x.count(15), d[1]);
            Check.due("10: no record waits", x.count(16) + x.count(17), 0);
            Check.due("4: nothing more", x.sync(), 0);
            Check.due("7: right", x.verify(), Town.NONE);
            int acts = Disk.restart(x);
            Check.due("6: all are done again", acts * 9 - x.now() * 4, d[0]);
            Check.due("10: blocks used", x.count(15), d[1]);
        }
    }

    private static void promise4Bytes() {
        PostHouse x = new PostHouse();
        for (int k = 0; k < 50; k++) x.tick(1);
        Check.due("4: 250 bytes", x.sync(), 2);
        byte[] all = Disk.times(50, TICK);
        byte[] first = Disk.block(1, 0, 248, Arrays.copyOf(all, 248)), second = Disk.block(2, 1, 2, Arrays.copyOfRange(all, 248, 250));
        Check.due("4: a block that is full", Disk.bytes(x, 1, 0, 128), Disk.bytes(first, 0, 128));
        Check.due("4: up to its sum", Disk.bytes(x, 1, 128, 256), Disk.bytes(first, 128, 256));
        PostHouse y = new PostHouse();
        for (int k = 0; k < 50; k++) y.tick(1);
        y.sync();
        Check.due("4: a record goes on in the next block", Disk.bytes(y, 2, 0, 256), Disk.bytes(second, 0, 256));
        y.tick(9);
        y.machine(16, 2000, 500, 4000);
        Check.due("4: the next sync", y.sync(), 1);
        byte[] third = Disk.block(3, Disk.record(40, 9), Disk.record(10, 16, 2000, 500, 4000));
        Check.due("4: lies in the block behind those used", Disk.bytes(y, 3, 0, 30), Disk.bytes(third, 0, 30));
        Check.due("4: its sum", Disk.bytes(y, 3, 252, 256), Disk.bytes(third, 252, 256));
    }

    private static void promise4ZerosBehindTheRecords() {
        PostHouse x = new PostHouse();
        for (int i = 0; i < 256; i++) x.poke(1, i, 255);
        x.tick(1);
        Check.due("4: a block over other bytes", x.sync(), 1);
        byte[] due = Disk.block(1, TICK);
        Check.due("4: 0s behind its records", Disk.bytes(x, 1, 0, 200), Disk.bytes(due, 0, 200));
        PostHouse y = new PostHouse();
        for (int k = 0; k < 49; k++) y.tick(1);
        y.sync();
        y.poke(1, 9, 1);
        Disk.restart(y);
        y.tick(1);
        Check.due("4: a shorter one where a longer one was", y.sync(), 1);
        Check.due("4: nothing is left of that", Disk.bytes(y, 1, 0, 256), Disk.bytes(due, 0, 256));
    }

    /** A house of so many acts, each of which lies in a block of its own. */
    private static PostHouse ticked(int blocks) {
        PostHouse x = new PostHouse();
        for (int k = 0; k < blocks; k++) {
            x.tick(1);
            x.sync();
        }
        return x;
    }

    private static void promise4LogFull() {
        PostHouse x = ticked(149);
        wait(x, 243);
        Check.due("31: 17 bytes would want two blocks", x.machine(2, 1, 1, 0), Town.ROOM);
        Check.due("69: so would 9", x.device(0, 0), Town.ROOM);
        Check.due("10: a refused act has no record", x.count(17), 243);
        int now = x.now();
        Check.due("74: 5 have room to the last byte", x.tick(1), now + 1);
        Check.due("10: 248 bytes wait", x.count(17), 248);
        Check.due("74: no 5 more", x.tick(1), Town.ROOM);
        Check.due("75: refused", x.now(), now + 1);
        Check.due("4: the last block", x.sync(), 1);
        Check.due("4: its head", Disk.bytes(x, 150, 0, 4), "0 150 1 248 ");
        Check.due("10: all are used", x.count(15), 150);
        Check.due("74: the log is full", x.tick(1), Town.ROOM);
        Check.due("74: what is OUTSIDE is told first", x.tick(0), Town.OUTSIDE);
        Check.due("4: nothing waits", x.sync(), 0);
        PostHouse y = ticked(148);
        wait(y, 488);
        Check.due("69: 9 would want a third block", y.device(0, 0), Town.ROOM);
        Check.due("74: 5 have room", y.tick(1) - y.now(), 0);
        Check.due("4: two blocks are left", y.sync(), 2);
        Check.due("4: the one before the last", Disk.bytes(y, 149, 0, 4), "0 149 0 248 ");
        Check.due("4: the last one", Disk.bytes(y, 150, 0, 4), "0 150 1 245 ");
    }

    private static void promise4Lost() {
        PostHouse x = new PostHouse();
        x.tick(1);
        x.sync();
        x.tick(2);
        x.cut(0, 40);
        Check.due("4: power went", x.sync(), Town.LOST);
        Check.due("4: DOWN", x.sync(), Town.DOWN);
        Check.due("75: DOWN", x.now(), Town.DOWN);
        Check.due("6: what was written is done again", x.start(), 1);
        Check.due("10: what waited is lost", x.count(16) + x.count(17), 0);
        Check.due("75: the clock", x.now(), 1);
        Check.due("4: nothing to write", x.sync(), 0);
        x.tick(4);
        Check.due("4: over the TORN block", x.sync(), 1);
        Check.due("7: it is right now", x.verify(), Town.NONE);
        Check.due("6: both are done again", Disk.restart(x), 2);
        Check.due("75: the clock", x.now(), 5);
    }

    private static void promise5Refusals() {
        PostHouse x = new PostHouse();
        Check.due("5: an edge", x.cut(2000, 0), 1);
        Check.due("5: an edge", x.cut(Town.NONE, 255), 1);
        Check.due("5: the next block, behind 3 bytes", x.cut(0, 3), 1);
        Check.due("5: n below", x.cut(-2, 0), Town.OUTSIDE);
        Check.due("5: n above", x.cut(2001, 0), Town.OUTSIDE);
        Check.due("5: tear below", x.cut(5, -1), Town.OUTSIDE);
        Check.due("5: tear above", x.cut(5, 256), Town.OUTSIDE);
        Check.due("5: tear above with NONE", x.cut(Town.NONE, 256), Town.OUTSIDE);
        Check.due("5: it is no act", x.count(16), 0);
        x.poke(1, 3, 99);
        x.tick(1);
        Check.due("5: what was set stays when one is refused", x.sync(), Town.LOST);
        Check.due("5: its tear, too", Disk.bytes(x, 1, 0, 5), "0 1 1 99 0 ");
        Check.due("5: DOWN before OUTSIDE", x.cut(-2, 256), Town.DOWN);
        Check.due("5: DOWN", x.cut(0, 0), Town.DOWN);
    }

    private static void promise5Tear() {
        byte[] whole = Disk.block(1, Disk.times(49, TICK));
        for (int tear : new int[] {0, 1, 2, 3, 100, 249, 252, 254, 255}) {
            PostHouse x = new PostHouse();
            int[] looked = {0, 1, 2, 3, 4, 99, 100, 101, 248, 249, 251, 252, 253, 254, 255};
            for (int i : looked) x.poke(1, i, ~whole[i]);
            for (int k = 0; k < 49; k++) x.tick(1);
            x.cut(0, tear);
            Check.due("5: power goes behind byte " + tear, x.sync(), Town.LOST);
            for (int i : looked) Check.due("5: byte " + i, x.octet(1, i), (i < tear ? whole[i] : ~whole[i]) & 255);
            for (int i : looked) if (i >= tear) x.poke(1, i, 255);
            Check.due("6: TORN, though all its bytes are right", x.start(), 0);
            Check.due("10: not used", x.count(15), 0);
            x.tick(2);
            Check.due("4: written whole", x.sync(), 1);
            Check.due("7: and TORN no more", x.verify(), Town.NONE);
            Check.due("6: so it counts", Disk.restart(x), 1);
        }
    }

    private static void promise5WhichBlock() {
        for (int n = 0; n <= 3; n++) {
            PostHouse x = new PostHouse();
            x.cut(n, 10);
            for (int k = 0; k < n; k++) {
                x.tick(1);
                Check.due("5: block " + k + " of " + n, x.sync(), 1);
                Check.due("5: no block is written", x.sync(), 0);
            }
            x.tick(1);
            Check.due("5: block " + n, x.sync(), Town.LOST);
            Check.due("6: the blocks before", x.start(), n);
            x.tick(1);
            Check.due("6: none is set for power to go", x.sync(), 1);
        }
        PostHouse x = new PostHouse();
        x.cut(0, 0);
        x.cut(1, 0);
        x.tick(1);
        Check.due("5: what was set before does not count", x.sync(), 1);
        x.cut(1, 0);
        x.tick(1);
        Check.due("5: from now on", x.sync(), 1);
        x.cut(Town.NONE, 0);
        x.tick(1);
        Check.due("5: NONE: it stays", x.sync(), 1);
        x.cut(5, 0);
        x.tick(1);
        x.sync();
        x.cut(0, 0);
        x.cut(2, 0);
        x.tick(1);
        Check.due("5: the latest counts alone", x.sync(), 1);
    }

    private static void promise5WithinASync() {
        for (int n = 0; n <= 3; n++) {
            PostHouse x = new PostHouse();
            x.tick(1);
            x.sync();
            for (int k = 0; k < 120; k++) x.tick(1);
            x.cut(n, 20);
            Check.due("5: block " + n + " of three", x.sync(), n < 3 ? Town.LOST : 3);
            for (int k = 0; k < n; k++) Check.due("5: those before are whole", Disk.bytes(x, 2 + k, 0, 4), "0 " + (2 + k) + (k < 2 ? " 0 248 " : " 1 104 "));
            if (n == 3) x.tick(1);
            if (n == 3) Check.due("5: the first block of the next sync", x.sync(), Town.LOST);
            Check.due("6: the sync counts when it is all there", x.start(), n < 3 ? 1 : 121);
            Check.due("10: blocks used", x.count(15), n < 3 ? 1 : 4);
        }
    }

    private static void started(String name, int done, int clock, int used, byte[]... blocks) {
        PostHouse x = Disk.with(blocks);
        Check.due("6: " + name, Disk.restart(x), done);
        Check.due("75: " + name, x.now(), clock);
        Check.due("10: blocks used: " + name, x.count(15), used);
        Check.due("10: no record waits: " + name, x.count(16) + x.count(17), 0);
        Check.due("6: not DOWN any more: " + name, x.start(), Town.STATE);
    }

    private static byte[] tick(int n) {
        return Disk.record(40, n);
    }

    private static void promise6Start() {
        PostHouse x = new PostHouse();
        Check.due("6: it is not DOWN", x.start(), Town.STATE);
        x.tick(7);
        x.cut(0, 0);
        x.sync();
        Check.due("6: nothing was written", x.start(), 0);
        Check.due("6: it is not DOWN", x.start(), Town.STATE);
        Check.due("75: an empty house", x.now(), 0);
        byte[] a = Disk.block(1, tick(1), tick(2)), b = Disk.block(2, tick(4)), c = Disk.block(3, tick(8));
        started("all", 4, 15, 3, a, b, c);
        byte[] bad = b.clone();
        bad[200] = 1;
        started("as far as each is right", 2, 3, 1, a, bad, c);
        started("the first is not right", 0, 0, 0, bad, b, c);
        started("a block at another place is not right", 2, 3, 1, a, c, b);
        PostHouse y = Disk.with(a, b, c);
        y.poke(2, 5, 1);
        Check.due("6: two of four", Disk.restart(y), 2);
        y.poke(2, 5, 1);
        Check.due("7: a block that was TORN is not used", y.verify(), Town.NONE);
        Check.due("10: one block", y.count(15), 1);
        y.tick(16);
        Check.due("4: the next is written behind those used", y.sync(), 1);
        Check.due("6: those behind it are what they were", Disk.bytes(y, 3, 0, 9), Disk.bytes(c, 0, 9));
    }

    private static void promise6SyncOfSomeBlocks() {
        byte[] all = Disk.times(120, TICK);
        byte[] a = Disk.block(1, 0, 248, Arrays.copyOf(all, 248)), b = Disk.block(2, 0, 248, Arrays.copyOfRange(all, 248, 496));
        byte[] c = Disk.block(3, 1, 104, Arrays.copyOfRange(all, 496, 600));
        PostHouse x = new PostHouse();
        for (int k = 0; k < 120; k++) x.tick(1);
        Check.due("4: three blocks", x.sync(), 3);
        Check.due("6: records go on from block to block", Disk.restart(x), 120);
        started("its last block is not there", 0, 0, 0, a);
        started("its last block is not there", 0, 0, 0, a, b);
        started("a sync before that one", 1, 3, 1, Disk.block(1, tick(3)), Disk.block(2, 0, 248, Arrays.copyOf(all, 248)));
        PostHouse y = new PostHouse();
        for (int k = 0; k < 60; k++) y.tick(1);
        y.sync();
        Disk.turn(y, 1, a, Disk.block(1, 1, 248, Arrays.copyOf(all, 248)));
        Disk.turn(y, 2, Disk.block(2, 1, 52, Arrays.copyOfRange(all, 248, 300)), Disk.block(2, 1, 52, Disk.join(new byte[2], Disk.times(10, TICK))));
        Check.due("7: two syncs of one block each", y.verify(), Town.NONE);
        Check.due("6: a record does not go on in another sync", Disk.restart(y), 49);
    }

    private static void promise6NoRecord() {
        for (int number : new int[] {0, 41, 128, 255}) {
            byte[] none = {(byte) number};
            started("no act " + number + " at first", 1, 9, 2, Disk.block(1, none, tick(1), tick(2)), Disk.block(2, tick(9)));
            started("no act " + number + " behind one", 2, 10, 2, Disk.block(1, tick(1), none, tick(2)), Disk.block(2, tick(9)));
            started("no act " + number + " at last", 3, 12, 2, Disk.block(1, tick(1), tick(2), none), Disk.block(2, tick(9)));
        }
        started("act 1 is one", 1, 0, 1, Disk.block(1, Disk.record(1, Sheets.latin("P1,A;"))));
        started("act 40 is one", 1, 5, 1, Disk.block(1, tick(5)));
    }

    private static void promise6TooFewBytes() {
        for (int n = 1; n <= 5; n++) {
            byte[] part = Arrays.copyOf(tick(4), n);
            boolean all = n == 5;
            started(n + " bytes of 5", all ? 3 : 2, all ? 14 : 10, 2, Disk.block(1, tick(1), part), Disk.block(2, tick(9)));
        }
        byte[] machine = Disk.record(10, 2, 1, 1, 0);
        for (int n : new int[] {1, 13, 16, 17}) {
            started(n + " bytes of 17", n == 17 ? 2 : 1, 1, 1, Disk.block(1, tick(1), Arrays.copyOf(machine, n)));
        }
        byte[] item = Disk.record(5, 0, 1, 0, 4, 1, 0);
        for (int n : new int[] {24, 25}) {
            byte[] town = Disk.record(1, Sheets.latin("P1,A;S1,A,0,0,0;R1,A,0,1,9;H1,A,1;"));
            started(n + " bytes of 25", n == 25 ? 3 : 2, 0, 1, Disk.block(1, town, Disk.record(29, 0), Arrays.copyOf(item, n)));
        }
    }

    /** What lay in the sync before, in just the bytes that are missing, does not help. */
    private static void promise6TooFewBytesBehindAnother() {
        byte[] first = Disk.record(1, Sheets.latin("P1,A;")), second = Disk.record(1, Sheets.latin("P2,A;"));
        for (int n = 1; n <= 8; n++) {
            PostHouse x = Disk.with(Disk.block(1, tick(3), first, tick(5)), Disk.block(2, tick(4), Arrays.copyOf(second, n)));
            Check.due("6: " + n + " bytes of 8 behind 8", Disk.restart(x), n == 8 ? 5 : 4);
            Check.due("10: places", x.count(0), n == 8 ? 2 : 1);
        }
        for (int n = 1; n <= 5; n++) {
            started(n + " bytes of 5 behind 5", n == 5 ? 4 : 3, n == 5 ? 14 : 10, 2, Disk.block(1, tick(3), tick(3)), Disk.block(2, tick(4), Arrays.copyOf(tick(4), n)));
        }
    }

    private static void promise6TrueOrFalse() {
        byte[] town = Disk.record(1, Sheets.latin("P1,A;S1,A,0,0,0;R1,A,0,1,9;H1,A,1;"));
        int[] on = {0, 1, 2, -1, 256, 1 << 24, 257};
        for (int c : on) {
            boolean told = c == 0 || c == 1;
            started("wish of " + c, told ? 4 : 2, told ? 3 : 0, 1, Disk.block(1, town, Disk.record(29, 0), Disk.record(39, 4, 1, c), tick(3)));
            // Without the account it would be refused; but what is no record is not looked at so far.
            started("refused wish of " + c, told ? 1 : 0, told ? 3 : 0, 1, Disk.block(1, Disk.record(39, 4, 1, c), tick(3)));
        }
    }

    private static void promise6Tapes() {
        byte[] book = Disk.record(1, Sheets.latin("P1,A;"));
        for (int n = 1; n <= 8; n++) {
            started(n + " bytes of 8", n == 8 ? 2 : 1, 3, 1, Disk.block(1, tick(3), Arrays.copyOf(book, n)));
        }
        started("an empty tape is refused", 1, 3, 1, Disk.block(1, Disk.record(1, new byte[0]), Disk.record(31, new byte[0]), Disk.record(4, new byte[0], 8), tick(3)));
        byte[] tooLong = book.clone();
        tooLong[2] = 6;
        started("a tape goes on into what comes", 0, 0, 1, Disk.block(1, tooLong, tick(3)));
        byte[] tooShort = book.clone();
        tooShort[2] = 4;
        started("what its tape leaves is no record", 0, 0, 1, Disk.block(1, tooShort, tick(3)));
        byte[] high = book.clone();
        high[1] = 1;
        started("two bytes tell how long it is", 0, 0, 1, Disk.block(1, high, tick(3)));
        started("a text with a fault is passed over", 1, 3, 1, Disk.block(1, Disk.record(1, Sheets.latin("P0,A;")), tick(3)));
        started("a width that is OUTSIDE is passed over", 1, 3, 1, Disk.block(1, Disk.record(4, new byte[14], 7), tick(3)));
        started("a sheet and a tariff", 3, 3, 1, Disk.block(1, Disk.record(4, new byte[16], 8), Disk.record(31, Sheets.latin("V1=5;")), tick(3)));
    }

    private static void promise6LongTape() {
        for (int length = 4096; length <= 4097; length++) {
            PostHouse x = new PostHouse();
            Town.lay(x, new byte[4096]);
            x.sheet(128);
            x.tick(1);
            x.tick(2);
            Check.due("4: 4113 bytes", x.sync(), 17);
            byte[] first = new byte[248], last = new byte[145];
            System.arraycopy(Disk.record(4, new byte[200], 128), 0, first, 0, 207);
            first[5] = 16;
            first[6] = 0;
            System.arraycopy(tick(1), 0, last, 135, 5);
            System.arraycopy(tick(2), 0, last, 140, 5);
            if (length == 4097) {
                byte[] other = first.clone();
                other[6] = 1;
                Disk.turn(x, 1, Disk.block(1, 0, 248, first), Disk.block(1, 0, 248, other));
                byte[] behind = last.clone();
                // Behind a tape of 4097 bytes there would be a tick.
                behind[136] = 40;
                Disk.turn(x, 17, Disk.block(17, 1, 145, last), Disk.block(17, 1, 145, behind));
            }
            Check.due("7: right", x.verify(), Town.NONE);
            Check.due("6: a tape of " + length, Disk.restart(x), length == 4096 ? 3 : 0);
            Check.due("75: a tape of " + length, x.now(), length == 4096 ? 3 : 0);
        }
    }

    private static void promise6PassedOver() {
        started("refused ones do not count", 3, 7, 1, Disk.block(1, tick(1), tick(0), tick(2), tick(1441), Disk.record(9, 0, 0), tick(4)));
        started("all are refused", 0, 0, 1, Disk.block(1, tick(0), tick(-1)));
        started("what one told before does not help", 1, 0, 1, Disk.block(1, Disk.record(29, 0), Disk.record(1, Sheets.latin("P1,A;"))));
    }

    private static void promise6RoomIsNotAsked() {
        PostHouse x = ticked(149);
        x.tick(5);
        x.cut(0, 255);
        Check.due("4: power goes at the last block", x.sync(), Town.LOST);
        Check.due("6: all that was written", x.start(), 149);
        Check.due("75: the clock", x.now(), 149);
        x.tick(6);
        Check.due("4: the last block", x.sync(), 1);
        Check.due("10: all are used", x.count(15), 150);
        Check.due("74: the log is full", x.tick(1), Town.ROOM);
    }

    private static void promise7Right() {
        byte[] load = Disk.times(49, TICK);
        byte[] full = Disk.join(load, new byte[3]);
        Object[][] blocks = {
            {"as it was", Disk.block(1, 1, 245, load), Town.NONE}, {"number 2", Disk.block(2, 1, 245, load), 1}, {"number 0", Disk.block(0, 1, 245, load), 1},
            {"number 257", Disk.block(257, 1, 245, load), 1}, {"a third byte of 2", Disk.block(1, 2, 245, load), 1}, {"a third byte of 0", Disk.block(1, 0, 245, load), 1},
            {"n of 0", Disk.block(1, 1, 0, load), 1}, {"n of 1", Disk.block(1, 1, 1, load), Town.NONE}, {"n of 247", Disk.block(1, 1, 247, load), Town.NONE},
            {"n of 248", Disk.block(1, 1, 248, full), Town.NONE}, {"n of 249", Disk.block(1, 1, 249, full), 1}, {"n of 255", Disk.block(1, 1, 255, full), 1},
            {"a third byte of 0 and 248", Disk.block(1, 0, 248, full), Town.NONE}, {"a third byte of 0 and 247", Disk.block(1, 0, 247, full), 1},
            {"a third byte of 0 and 249", Disk.block(1, 0, 249, full), 1}, {"a third byte of 2 and 248", Disk.block(1, 2, 248, full), 1},
            {"a third byte of 255", Disk.block(1, 255, 245, load), 1}, {"other records", Disk.block(1, 1, 245, Disk.times(245, new byte[] {40})), Town.NONE}};
        for (Object[] b : blocks) {
            PostHouse x = new PostHouse();
            for (int k = 0; k < 49; k++) x.tick(1);
            x.sync();
            Disk.turn(x, 1, Disk.block(1, load), (byte[]) b[1]);
            Check.due("7: " + b[0], x.verify(), (Integer) b[2]);
        }
        PostHouse x = ticked(1);
        for (int i = 252; i < 256; i++) {
            x.poke(1, i, 128);
            Check.due("7: byte " + i + " of the sum", x.verify(), 1);
            x.poke(1, i, 128);
        }
        Check.due("7: as it was", x.verify(), Town.NONE);
        for (int i : new int[] {0, 4, 100, 248, 249, 251}) {
            x.poke(1, i, 1);
            Check.due("7: byte " + i + " without its sum", x.verify(), 1);
            x.poke(1, i, 1);
        }
        byte[] zeros = Disk.block(1, TICK);
        byte[] none = zeros.clone();
        none[60] = 9;
        none[251] = 7;
        started("the bytes behind the records are in the sum alone", 1, 1, 1, Disk.summed(none));
    }

    private static void promise7First() {
        PostHouse x = ticked(4);
        Check.due("7: all right", x.verify(), Town.NONE);
        x.poke(5, 3, 1);
        Check.due("7: behind those used", x.verify(), Town.NONE);
        x.poke(4, 3, 1);
        Check.due("7: the last one", x.verify(), 4);
        x.poke(2, 3, 1);
        Check.due("7: the first one that is not right", x.verify(), 2);
        x.poke(2, 3, 1);
        Check.due("7: mended", x.verify(), 4);
        x.poke(1, 255, 128);
        Check.due("7: block 1", x.verify(), 1);
        x.cut(0, 0);
        x.tick(1);
        x.sync();
        Check.due("7: DOWN", x.verify(), Town.DOWN);
    }

    private static void promise8And9Places() {
        PostHouse x = new PostHouse();
        int[][] none = {{0, 0}, {-1, 0}, {151, 0}, {1, -1}, {1, 256}, {150, 256}, {0, 256}, {Integer.MIN_VALUE, 0}, {Integer.MAX_VALUE, 0}, {1, Integer.MIN_VALUE}, {1, Integer.MAX_VALUE}};
        for (int[] n : none) {
            Check.raises("8: octet(" + n[0] + ", " + n[1] + ")", IndexOutOfBoundsException.class, () -> x.octet(n[0], n[1]));
            Check.raises("9: poke(" + n[0] + ", " + n[1] + ")", IndexOutOfBoundsException.class, () -> x.poke(n[0], n[1], 1));
        }
        int[][] there = {{1, 0}, {1, 255}, {150, 0}, {150, 255}};
        for (int[] t : there) {
            Check.due("8: octet", x.octet(t[0], t[1]), 0);
            Check.due("9: poke", x.poke(t[0], t[1], 200), 200);
            Check.due("8: octet", x.octet(t[0], t[1]), 200);
        }
        x.tick(1);
        x.cut(0, 0);
        x.sync();
        Check.due("8: while it is DOWN", x.octet(150, 255), 200);
        Check.due("9: while it is DOWN", x.poke(150, 255, 8), 192);
        Check.raises("8: while it is DOWN", IndexOutOfBoundsException.class, () -> x.octet(151, 0));
        Check.raises("9: while it is DOWN", IndexOutOfBoundsException.class, () -> x.poke(1, 256, 0));
    }

    private static void promise9Poke() {
        PostHouse x = new PostHouse();
        Check.due("9: xored", x.poke(7, 7, 0xF0), 0xF0);
        Check.due("9: xored again", x.poke(7, 7, 0xFF), 0x0F);
        Check.due("9: the lowest byte of the mask", x.poke(7, 7, 0x12345600), 0x0F);
        Check.due("9: the lowest byte of -1", x.poke(7, 7, -1), 0xF0);
        Check.due("9: 256 is nothing", x.poke(7, 7, 256), 0xF0);
        Check.due("9: no other byte", Disk.bytes(x, 7, 6, 9), "0 240 0 ");
        Check.due("9: no act", x.count(16), 0);
        x.tick(3);
        x.sync();
        x.poke(1, 8, 7);
        Check.due("9: the house does not change with its disk", x.now(), 3);
        x.poke(1, 8, 7);
        Check.due("9: there and back", Disk.restart(x), 1);
    }

    private static void promise10Counts() {
        PostHouse x = Town.built(300);
        x.hold(0, 0, 9);
        x.forward(1, 0, 2, 9);
        x.forward(2, 0, 1, 9);
        int item = Town.posted(x, 0, 0, 1, 0);
        x.round(0, 0, 0);
        x.round(1, 0, 0);
        for (int k = 0; k < 5; k++) x.leg(0, 1, 0, 1, 1);
        for (int k = 0; k < 4; k++) x.bag(0, 1);
        for (int k = 0; k < 6; k++) x.locker(0, 5);
        x.account(2);
        for (int k = 0; k < 7; k++) x.order(4, 5, 1);
        x.payOut(3, 5, 1);
        x.wish(4, 8, true);
        x.lose(item);
        int[] due = {2, 3, 3, 5, 3, 1, 2, 5, 4, 6, 2, 9, 7, 3, 1, 0, 37};
        for (int what = 0; what < due.length; what++) Check.due("10: count(" + what + ")", x.count(what), due[what]);
        Check.due("10: below", x.count(-1), Town.OUTSIDE);
        Check.due("10: above", x.count(18), Town.OUTSIDE);
        Check.due("10: the least number", x.count(Integer.MIN_VALUE), Town.OUTSIDE);
        Check.due("10: the greatest number", x.count(Integer.MAX_VALUE), Town.OUTSIDE);
        x.sync();
        Check.due("10: blocks used", x.count(15), 3);
        x.tick(1);
        x.cut(0, 0);
        x.sync();
        Check.due("10: DOWN before OUTSIDE", x.count(18), Town.DOWN);
    }

    private static void promise10Records() {
        PostHouse x = new PostHouse();
        Check.due("10: refused acts do not wait", x.tick(0) + x.machine(1, 1, 1, 1) + x.account(0), 2 * Town.OUTSIDE + Town.UNKNOWN);
        Check.due("10: none waits", x.count(16) + x.count(17), 0);
        x.tick(1);
        Check.due("10: five bytes", x.count(16) * 100 + x.count(17), 105);
        Town.book(x, "P1,A;");
        Check.due("10: 3 and the tape", x.count(16) * 100 + x.count(17), 205 + 8);
        Town.lay(x, new byte[256]);
        x.sheet(8);
        Check.due("10: 7 and the tape", x.count(16) * 1000 + x.count(17), 3000 + 13 + 263);
    }

    /** Each record as the document tells it, read from the disk: its number, its arguments in order, its tape. */
    private static void promise10EveryAct() {
        List<Tour.Act> acts = Tour.acts();
        boolean[] seen = new boolean[41];
        // Reading all records would be too many calls for one object: each takes the tour and looks at some of them.
        for (int first = 0; first < acts.size(); first += 6) {
            PostHouse x = new PostHouse();
            for (int k = 0; k < acts.size(); k++) {
                Tour.Act act = acts.get(k);
                int used = x.count(15), records = x.count(16), bytes = x.count(17);
                Check.due("10: act " + act.record[0] + " of the tour", act.step.on(x), act.due);
                Check.due("10: one record more", x.count(16), records + 1);
                Check.due("10: its bytes", x.count(17), bytes + act.record.length);
                if (k < first || k >= first + 6) continue;
                seen[act.record[0]] = true;
                x.sync();
                look(x, used + 1, bytes, act.record);
            }
        }
        for (int act = 1; act <= 40; act++) Check.due("10: act " + act + " was looked at", seen[act] ? 1 : 0, 1);
    }

    /** Looks at a record that lies behind so many bytes in the blocks from this one on. */
    private static void look(PostHouse x, int block, int behind, byte[] record) {
        StringBuilder got = new StringBuilder();
        int looked = Math.min(record.length, 26);
        for (int i = behind; i < behind + looked; i++) got.append(x.octet(block + i / Disk.LOAD, 4 + i % Disk.LOAD)).append(' ');
        Check.due("10: the record of act " + record[0], got.toString(), Disk.bytes(record, 0, looked));
    }

    /** Things of the numbers that others had in a house which is lost. */
    private static void beginNew(PostHouse x) {
        Town.book(x, Town.BOOK);
        x.account(3);
        for (int k = 0; k < 2; k++) {
            x.round(0, 0, 0);
            x.locker(0, 2);
        }
        x.bag(0, 1);
        x.leg(0, 1, 9, 9, 9);
        x.tick(3);
        for (int k = 0; k < 3; k++) Town.posted(x, 0, 0, 7, 0);
    }

    private static void promise6NothingElseIsLeft() {
        PostHouse x = States.house(0), y = new PostHouse();
        x.machine(2, 1, 1, 4000);
        for (int k = 0; k < 3; k++) Town.posted(x, 0, 0, 7, 0);
        x.sort(0);
        x.openBox(0, 1);
        x.device(0, 0);
        x.wish(4, 1, true);
        x.wish(4, 0, true);
        x.hold(0, 0, 9);
        x.late(0, 9);
        Check.due("38: before", x.wrong(0) >= 0 ? 1 : 0, 1);
        Check.due("68: before", x.lockerAt(0, 3) * 10 + x.bagAt(0, 3), 11);
        Check.due("6: none of it was written", Disk.restart(x), 0);
        Check.due("6: nothing is left", Whole.of(x), Whole.of(y));
        y = new PostHouse();
        beginNew(x);
        beginNew(y);
        Check.due("6: nothing is left for things of the same numbers", Whole.of(x), Whole.of(y));
        Check.due("61: no tariff", x.price(0), Town.NONE);
        x.assign(0, 0);
        Check.due("36: the machine is as it was at first", x.sort(0) * 10 + x.passes(), 31);
    }

    private static void promise6EveryAct() {
        List<Tour.Act> acts = Tour.acts();
        for (int end = acts.size() - 20; end <= acts.size(); end += 4) {
            PostHouse x = new PostHouse(), y = new PostHouse();
            for (int k = 0; k < end; k++) {
                acts.get(k).step.on(x);
                acts.get(k).step.on(y);
                if (k % 7 == 0) y.sync();
            }
            y.sync();
            Check.due("6: acts done again", Disk.restart(y), end);
            Check.due("6: the house is what its log makes of it", Whole.ofActs(y), Whole.ofActs(x));
        }
    }
}
