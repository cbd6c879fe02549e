import java.io.ByteArrayOutputStream;
import java.util.Arrays;

/** Records and blocks as the document tells them, and the disk's bytes seen and changed one by one. */
final class Disk {
    static final int LOAD = 248, BLOCKS = 150;

    private Disk() { }

    static byte[] join(byte[]... parts) {
        ByteArrayOutputStream all = new ByteArrayOutputStream();
        for (byte[] part : parts) all.write(part, 0, part.length);
        return all.toByteArray();
    }

    static byte[] times(int n, byte[] part) {
        byte[][] parts = new byte[n][];
        Arrays.fill(parts, part);
        return join(parts);
    }

    /** The record of an act that does not read the tape. */
    static byte[] record(int act, int... args) {
        ByteArrayOutputStream all = new ByteArrayOutputStream();
        all.write(act);
        for (int n : args) for (int shift = 24; shift >= 0; shift -= 8) all.write(n >>> shift);
        return all.toByteArray();
    }

    /** The record of an act that reads the tape. */
    static byte[] record(int act, byte[] tape, int... args) {
        return join(record(act, args), new byte[] {(byte) (tape.length >> 8), (byte) tape.length}, tape);
    }

    /** A block with all its bytes right for these. */
    static byte[] block(int number, int third, int n, byte[] load) {
        byte[] block = new byte[256];
        block[0] = (byte) (number >> 8);
        block[1] = (byte) number;
        block[2] = (byte) third;
        block[3] = (byte) n;
        System.arraycopy(load, 0, block, 4, load.length);
        return summed(block);
    }

    /** The one block of a sync of these records. */
    static byte[] block(int number, byte[]... records) {
        byte[] load = join(records);
        return block(number, 1, load.length, load);
    }

    static byte[] summed(byte[] block) {
        int s = 0;
        for (int i = 0; i < 252; i++) s = Integer.rotateLeft(s ^ block[i] & 255, 3) * 0x85EBCA77;
        for (int k = 0; k < 4; k++) block[252 + k] = (byte) (s >>> 24 - 8 * k);
        return block;
    }

    static String bytes(byte[] block, int from, int to) {
        StringBuilder b = new StringBuilder();
        for (int i = from; i < to; i++) b.append(block[i] & 255).append(' ');
        return b.toString();
    }

    static String bytes(PostHouse x, int block, int from, int to) {
        StringBuilder b = new StringBuilder();
        for (int i = from; i < to; i++) b.append(x.octet(block, i)).append(' ');
        return b.toString();
    }

    /** Changes a block whose bytes are known into another one. */
    static void turn(PostHouse x, int block, byte[] from, byte[] to) {
        for (int i = 0; i < 256; i++) if (from[i] != to[i]) x.poke(block, i, from[i] ^ to[i]);
    }

    /** A house whose disk begins with these blocks, all of them used; what it did itself was to tick. */
    static PostHouse with(byte[]... blocks) {
        PostHouse x = new PostHouse();
        for (int k = 1; k <= blocks.length; k++) {
            x.tick(1);
            x.sync();
            turn(x, k, block(k, record(40, 1)), blocks[k - 1]);
        }
        return x;
    }

    /** Lets power go before the next block gets a byte, and starts the house again. */
    static int restart(PostHouse x) {
        x.cut(0, 0);
        x.tick(1);
        x.sync();
        return x.start();
    }
}
