import java.util.Arrays;
import java.util.Random;

/** Draws texts as grey sheets, and lays bytes on a tape. */
final class Sheets {
    static final String SIGNS = "0123456789ABCDEFGHIJKLMNOPQRSTUVWXYZ";
    private static final String[] FONT = ("75557 26227 71747 71717 55711 74717 74757 71122 75757 75717 25755 65656 34443 65556 74647 74644 34553 "
        + "55755 72227 11152 55655 44447 57755 75555 25552 65644 25563 65655 34216 72222 55557 55552 55775 55255 55222 71247").split(" ");

    private Sheets() { }

    /** A sheet of lines of words, each cell of a sign so many points wide and high; white is 255 and ink 0. */
    static byte[] draw(int width, int scale, int wordGap, String... lines) {
        int rows = lines.length * (5 * scale + 2) + 1;
        byte[] sheet = new byte[width * rows];
        Arrays.fill(sheet, (byte) 255);
        for (int i = 0; i < lines.length; i++) {
            int x = 1;
            for (char c : lines[i].toCharArray()) {
                if (c == ' ') {
                    x += wordGap;
                    continue;
                }
                sign(sheet, width, x, 1 + i * (5 * scale + 2), scale, c);
                x += 3 * scale + 1;
            }
        }
        return sheet;
    }

    private static void sign(byte[] sheet, int width, int left, int top, int scale, char c) {
        String rows = FONT[SIGNS.indexOf(c)];
        for (int y = 0; y < 5 * scale; y++) {
            for (int x = 0; x < 3 * scale; x++) {
                boolean ink = ((rows.charAt(y / scale) - '0') >> (2 - x / scale) & 1) != 0;
                if (ink && left + x < width) sheet[(top + y) * width + left + x] = 0;
            }
        }
    }

    /** A sheet of these rows: # is ink, all else white. */
    static byte[] pixels(String... rows) {
        int width = rows[0].length();
        byte[] sheet = new byte[rows.length * width];
        for (int k = 0; k < sheet.length; k++) sheet[k] = (byte) (rows[k / width].charAt(k % width) == '#' ? 0 : 255);
        return sheet;
    }

    static byte[] noisy(byte[] sheet, int points, Random random) {
        byte[] noisy = sheet.clone();
        for (int k = 0; k < points; k++) noisy[random.nextInt(noisy.length)] = (byte) random.nextInt(256);
        return noisy;
    }

    /** Twenty bytes from a place on, as the five numbers that feed() takes; 0s behind the end. */
    static int[] words(byte[] bytes, int from) {
        int[] words = new int[5];
        for (int k = 0; k < 20; k++) {
            int octet = from + k < bytes.length ? bytes[from + k] & 255 : 0;
            words[k / 4] = words[k / 4] << 8 | octet;
        }
        return words;
    }

    static byte[] latin(String text) {
        return text.getBytes(java.nio.charset.StandardCharsets.ISO_8859_1);
    }
}
