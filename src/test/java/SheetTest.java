import java.util.Arrays;

/** Promises 18 to 21: grey sheets, their lines and signs, and what is read from them. */
public final class SheetTest {
    public static void main(String[] args) {
        refusals();
        readings();
        misspeltStreets();
        longNames();
        digitsAndWords();
        everySign();
        darkness();
        parts();
        lines();
        orderInALine();
        cells();
        latestSheet();
        Check.finish();
    }

    private static int show(PostHouse x, int width, byte[] sheet) {
        Town.lay(x, sheet);
        return x.sheet(width);
    }

    private static int show(PostHouse x, String... lines) {
        return show(x, 60, Sheets.draw(60, 1, 2, lines));
    }

    private static void refusals() {
        PostHouse x = Town.built(0);
        Check.due("18: no sheet", x.read(), Town.NONE);
        Check.due("18: empty", x.sheet(8), Town.OUTSIDE);
        Check.due("18: too narrow", show(x, 7, new byte[14]), Town.OUTSIDE);
        Check.due("18: too wide", show(x, 129, new byte[258]), Town.OUTSIDE);
        Check.due("18: no whole rows", show(x, 8, new byte[15]), Town.OUTSIDE);
        Check.due("18: the least", show(x, 8, new byte[8]), 1);
        Check.due("18: the widest", show(x, 128, new byte[128]), 1);
        Check.due("18: the longest", show(x, 8, new byte[4096]), 1);
        Check.due("10: three acts more", x.count(16), 2 + 3);
    }

    private static void readings() {
        PostHouse x = Town.built(0);
        Check.due("18: an address", show(x, "LIND 12", "100"), 0);
        Check.due("19: its point", x.read(), 1);
        Check.due("18: 1: one line", show(x, "100"), 1);
        Check.due("19: none", x.read(), Town.NONE);
        Check.due("18: 1: none", show(x, 8, new byte[64]), 1);
        Check.due("18: 2: letters", show(x, "LIND 12", "1K0"), 2);
        Check.due("18: 2: six digits", show(x, "LIND 12", "000100"), 2);
        Check.due("18: five digits", show(x, "LIND 12", "00100"), 0);
        Check.due("18: 3: no place", show(x, "LIND 12", "101"), 3);
        Check.due("18: 3: code 0", show(x, "LIND 12", "0"), 3);
        x = Town.built(0);
        Check.due("18: only the first word of the last line", show(x, "LIND 12", "100 MITTE"), 0);
        Check.due("18: 2: the first word is no number", show(x, "LIND 12", "MITTE 100"), 2);
        Check.due("18: 4: one word", show(x, "12", "100"), 4);
        Check.due("18: 4: no number", show(x, "LIND K2", "100"), 4);
        Check.due("18: 4: four digits", show(x, "LIND 0012", "100"), 4);
        Check.due("18: three digits", show(x, "LIND 012", "100"), 0);
        x = Town.built(0);
        Check.due("18: 5: no such street", show(x, "AAAAA 12", "100"), 5);
        Check.due("18: 6: no such house", show(x, "LIND 4", "100"), 6);
        Check.due("19: none", x.read(), Town.NONE);
        Check.due("18: 6: a house of another street", show(x, "TOR 12", "100"), 6);
        Check.due("18: 5: a street of another place", show(x, "LIND 4", "7"), 5);
        Check.due("18: another place", show(x, "KAI 8", "7"), 0);
        Check.due("19: its point", x.read(), 4);
        Check.due("18: more lines above", show(x, "HERRN", "MUELLER 17", "TOR 5", "100"), 0);
        Check.due("19: its point", x.read(), 2);
        Check.due("18: two words of one name", show(x, "LI ND 3", "100"), 0);
        Check.due("19: its point", x.read(), 0);
        PostHouse y = new PostHouse();
        Check.due("18: 3: an empty book", show(y, "LIND 12", "100"), 3);
        Town.book(y, "P100,A;");
        Check.due("18: 5: no streets", show(y, "LIND 12", "100"), 5);
    }

    private static void misspeltStreets() {
        PostHouse x = Town.built(0);
        String[] near = {"LIND", "LINDE", "LND", "LUND", "LID", "LINDEN", "LI", "IND", "ALINDE", "NLID"};
        for (String name : near) Check.due("18: " + name, show(x, name + " 3", "100"), 0);
        x = Town.built(0);
        String[] far = {"LUNTE", "L", "LINDENB", "DNIL"};
        for (String name : far) Check.due("18: 5: " + name, show(x, name + " 3", "100"), 5);
        Town.book(x, "S100,LAND,0,0,0;R100,LAND,0,1,9;H100,LAND,3;");
        Check.due("18: 5: two have the least", show(x, "LUND 3", "100"), 5);
        Check.due("18: one has it", show(x, "LANDE 3", "100"), 0);
        Check.due("19: its point", x.read(), 5);
    }

    private static void longNames() {
        PostHouse x = new PostHouse();
        Town.book(x, "P5,A;S5,ZZZZZZZZZ,0,0,0;S5,AAAAAAAAAA,0,0,0;S5,A,0,0,0;R5,ZZZZZZZZZ,0,1,9;R5,AAAAAAAAAA,0,1,9;R5,A,0,1,9;"
            + "H5,ZZZZZZZZZ,1;H5,AAAAAAAAAA,1;H5,A,1;");
        String[] names = {"ZZZZZZZZZ", "AAAAAAAAAA", "A"};
        for (int k = 0; k < 3; k++) {
            Check.due("18: " + names[k], show(x, names[k] + " 1", "5"), 0);
            Check.due("19: its point", x.read(), k);
        }
        Check.due("18: two left out", show(x, "ZZZZZZZ 1", "5") * 10 + x.read(), 0);
        Check.due("18: three left out", show(x, "ZZZZZZ 1", "5"), 5);
        Check.due("18: two put in", show(x, "AAAAAAAAAAAA 1", "5") * 10 + x.read(), 1);
        Check.due("18: three put in", show(x, "AAAAAAAAAAAAA 1", "5"), 5);
    }

    private static void digitsAndWords() {
        PostHouse x = Town.built(0);
        show(x, 60, Sheets.draw(60, 1, 1, "A A", "100"));
        Check.due("21: a gap of 2 of a height of 5", x.sign(0, 1, 7), 1);
        show(x, "AA", "100");
        Check.due("21: a gap of 1", x.sign(0, 1, 7), 0);
        Check.due("21: the first one begins a word", x.sign(0, 0, 7), 1);
        show(x, 80, Sheets.draw(80, 2, 2, "A A", "100"));
        Check.due("21: a gap of 3 of a height of 10", x.sign(0, 1, 7), 0);
        show(x, 80, Sheets.draw(80, 2, 3, "A A", "100"));
        Check.due("21: a gap of 4 of a height of 10", x.sign(0, 1, 7), 1);
        Check.due("21: left", x.sign(0, 1, 0), 1 + 7 + 3);
        Check.due("21: width", x.sign(0, 1, 2), 6);
        Check.due("21: height", x.sign(0, 1, 3), 10);
        Check.due("21: OUTSIDE", x.sign(0, 0, 8) + x.sign(9, 9, -1), 2 * Town.OUTSIDE);
        Check.due("21: none such", x.sign(0, 2, 0) + x.sign(0, -1, 0) + x.sign(-1, 0, 0) + x.sign(2, 0, 0), -4);
        Check.due("20: OUTSIDE", x.textLine(0, 3) + x.textLine(9, -1), 2 * Town.OUTSIDE);
        Check.due("20: none such", x.textLine(2, 0) + x.textLine(-1, 0), -2);
        // The height of the first of the two counts, not that of the second.
        show(x, 16, Sheets.pixels("                ", " ##     #       ", " ##     #       ", " ##     #       ", " ##     #       ", " ##             "));
        Check.due("21: 5 * 5 is at least 2 * 5", x.sign(0, 1, 7), 1);
        show(x, 16, Sheets.pixels("                ", " #### #         ", " #### #         ", " #### #         ", " #### #         ", " ##             "));
        Check.due("21: 5 * 1 is less than 2 * 5", x.sign(0, 1, 7), 0);
        show(x, 16, Sheets.pixels("##  #           ", "##  #           ", "##  #           ", "##  #           ", "    #           ", "    #           "));
        Check.due("21: 5 * 2 is at least 2 * 4", x.sign(0, 1, 7), 1);
    }

    private static void everySign() {
        int[] cells = {075557, 026227, 071747, 071717, 055711, 074717, 074757, 071122, 075757, 075717, 025755, 065656, 034443, 065556, 074647, 074644,
            034553, 055755, 072227, 011152, 055655, 044447, 057755, 075555, 025552, 065644, 025563, 065655, 034216, 072222, 055557, 055552, 055775,
            055255, 055222, 071247};
        for (int s = 0; s < 36; s++) {
            String c = Sheets.SIGNS.substring(s, s + 1);
            PostHouse x = new PostHouse();
            for (int scale = 1; scale <= 3; scale++) {
                show(x, 30, Sheets.draw(30, scale, 2, c + c));
                if (x.textLine(0, 0) != 2) continue;
                Check.due("21: cells of " + c, x.sign(0, 1, 4), cells[s]);
                Check.due("21: digit " + c, s < 10 ? x.sign(0, 1, 5) : s, s);
                Check.due("21: letter " + c, s < 10 ? s : x.sign(0, 1, 6), s < 10 ? s : s - 10);
            }
        }
        PostHouse x = new PostHouse();
        show(x, 30, Sheets.draw(30, 1, 2, "O8"));
        Check.due("21: O as a digit", x.sign(0, 0, 5), nearest(025552, cells, 0, 10));
        Check.due("21: 8 as a letter", x.sign(0, 1, 6), nearest(075757, cells, 10, 36));
        show(x, 8, Sheets.pixels("        ", " ###    ", " ###    ", " ###    ", " ###    ", " ###    "));
        Check.due("21: a full box", x.sign(0, 0, 4), 077777);
        Check.due("21: as a digit", x.sign(0, 0, 5), nearest(077777, cells, 0, 10));
        Check.due("21: as a letter", x.sign(0, 0, 6), nearest(077777, cells, 10, 36));
    }

    private static int nearest(int cells, int[] symbols, int from, int to) {
        int[] far = new int[to - from];
        for (int s = from; s < to; s++) far[s - from] = Integer.bitCount(cells ^ symbols[s]);
        int[] sorted = far.clone();
        Arrays.sort(sorted);
        if (sorted[0] > 3 || sorted[0] == sorted[1]) return Town.NONE;
        for (int s = 0; s < far.length; s++) if (far[s] == sorted[0]) return s;
        return Town.NONE;
    }

    private static int parts(byte[] sheet, int width) {
        PostHouse x = new PostHouse();
        show(x, width, sheet);
        int parts = 0;
        for (int i = 0; i < 10; i++) parts += Math.max(0, x.textLine(i, 0));
        return parts;
    }

    private static void darkness() {
        byte[] square = Sheets.pixels("        ", " ##     ", " ##     ", "        ");
        int[][] greys = {{0, 31, 0}, {0, 32, 1}, {100, 132, 1}, {224, 255, 0}, {223, 255, 1}};
        for (int[] g : greys) {
            byte[] grey = square.clone();
            for (int k = 0; k < grey.length; k++) grey[k] = (byte) (square[k] == 0 ? g[0] : g[1]);
            Check.due("20: a square of " + g[0] + " on " + g[1], parts(grey, 8), g[2]);
        }
        byte[] grey = square.clone();
        grey[31] = 1;
        for (int mid = 127; mid <= 129; mid++) {
            for (int k = 0; k < grey.length; k++) if (square[k] == 0) grey[k] = (byte) mid;
            // With 1 and 255 twice a grey must be less than 256.
            Check.due("20: half grey of " + mid, parts(grey, 8), mid < 128 ? 1 : 0);
        }
    }

    private static void parts() {
        Check.due("20: three points are no part", parts(Sheets.pixels("        ", " ##     ", " #      "), 8), 0);
        Check.due("20: four are", parts(Sheets.pixels("        ", " ##     ", " ##     "), 8), 1);
        Check.due("20: aslant", parts(Sheets.pixels("#       ", " #      ", "  #     ", "   #    "), 8), 1);
        Check.due("20: the other way aslant", parts(Sheets.pixels("   #    ", "  #     ", " #      ", "#       "), 8), 1);
        Check.due("20: a row does not go on in the next one", parts(Sheets.pixels("      ##", "##      "), 8), 0);
        Check.due("20: two beside each other", parts(Sheets.pixels("## ##   ", "## ##   "), 8), 2);
        Check.due("20: one that hangs together far away", parts(Sheets.pixels("# #     ", "# #     ", "###     "), 8), 1);
        byte[] many = new byte[126 * 32];
        Arrays.fill(many, (byte) 255);
        for (int y = 0; y + 1 < 30; y += 3) {
            for (int x = 0; x + 1 < 126; x += 3) for (int k = 0; k < 4; k++) many[(y + k / 2) * 126 + x + k % 2] = 0;
        }
        PostHouse x = new PostHouse();
        Check.due("18: ten rows of 42", show(x, 126, many), 2);
        Check.due("20: the first 200 parts alone", x.textLine(0, 0) + x.textLine(3, 0), 84);
        Check.due("20: the rest of them", x.textLine(4, 0), 200 - 4 * 42);
        Check.due("20: no more", x.textLine(5, 0), Town.NONE);
    }

    private static void lines() {
        PostHouse x = new PostHouse();
        show(x, 12, Sheets.pixels("## ##       ", "## ##       ", "      ##    ", "      ##    ", "## ##       ", "## ##       ", "            ", "            "));
        Check.due("20: three lines", x.textLine(0, 0) * 100 + x.textLine(1, 0) * 10 + x.textLine(2, 0), 212);
        Check.due("20: tops", x.textLine(0, 1) * 100 + x.textLine(1, 1) * 10 + x.textLine(2, 1), 24);
        Check.due("20: lefts", x.textLine(0, 2) * 100 + x.textLine(1, 2) * 10 + x.textLine(2, 2), 60);
        // Of heights 4 and 2, one row in common is half of the lesser.
        show(x, 12, Sheets.pixels("            ", "##          ", "##          ", "##          ", "##  ##      ", "    ##      "));
        Check.due("20: half of the lesser height", x.textLine(0, 0), 2);
        show(x, 12, Sheets.pixels("            ", "##          ", "##          ", "##          ", "##  ##      ", "    ##      ", "    ##      "));
        Check.due("20: less than half", x.textLine(0, 0), 1);
        // A high box joins what would be lines of its own.
        show(x, 12, Sheets.pixels("##    #     ", "##    #     ", "      #     ", "      #     ", " ##   #     ", " ##   #     "));
        Check.due("20: they hang together", x.textLine(0, 0), 3);
        Check.due("20: highest top and least left", x.textLine(0, 1) * 10 + x.textLine(0, 2), 0);
        String[] rows = new String[36];
        Arrays.fill(rows, "        ");
        for (int k = 0; k < 11; k++) {
            rows[3 * k + 1] = "  ##    ";
            rows[3 * k + 2] = "  ##    ";
        }
        show(x, 8, Sheets.pixels(rows));
        Check.due("20: the tenth line", x.textLine(9, 1), 28);
        Check.due("20: the first ten alone", x.textLine(10, 0), Town.NONE);
        PostHouse y = Town.built(0);
        Check.due("18: ten lines are read", show(y, 40, Sheets.draw(40, 1, 2, "A", "A", "A", "A", "A", "A", "A", "A", "LIND 3", "100")), 0);
        byte[] eleven = new byte[40 * 80];
        System.arraycopy(Sheets.draw(40, 1, 2, "A", "A", "A", "A", "A", "A", "A", "A", "LIND 3", "100", "7"), 0, eleven, 0, 40 * 78);
        Arrays.fill(eleven, 40 * 78, 40 * 80, (byte) 255);
        Check.due("18: the eleventh is not", show(y, 40, eleven), 0);
    }

    private static void orderInALine() {
        PostHouse x = new PostHouse();
        // The box in the middle begins furthest up, the last one is furthest left.
        show(x, 12, Sheets.pixels("     ##     ", "     ##  ## ", "##   ##  ## ", "##   ##  ## "));
        Check.due("21: by left", x.sign(0, 0, 0) * 100 + x.sign(0, 1, 0) * 10 + x.sign(0, 2, 0), 59);
        Check.due("21: their tops", x.sign(0, 0, 1) * 100 + x.sign(0, 1, 1) * 10 + x.sign(0, 2, 1), 201);
        // Two boxes with one left: the upper one goes before.
        show(x, 12, Sheets.pixels("####   #    ", "       #    ", "##     #    ", "##     #    ", "       #    "));
        Check.due("20: one line of three", x.textLine(0, 0), 3);
        Check.due("21: by top then", x.sign(0, 0, 1) * 10 + x.sign(0, 1, 1), 2);
        Check.due("21: its height", x.sign(0, 0, 3) * 10 + x.sign(0, 1, 3), 12);
    }

    private static void cells() {
        PostHouse x = new PostHouse();
        // A box of 2 by 2: columns from 0, 0, 1 and rows from 0, 0, 0, 1, 1: cells without points are no ink.
        show(x, 8, Sheets.pixels("        ", " ##     ", " ##     "));
        Check.due("21: cells of a small box", x.sign(0, 0, 4), 000303);
        // 4 by 5: columns 1, 1, 2 wide; half of the two points of the last cells is enough.
        show(x, 8, Sheets.pixels("        ", " ####   ", " # #    ", " #  #   ", " #      ", " ####   "));
        Check.due("21: half of the points is enough", x.sign(0, 0, 4), 075547);
        // Points of other parts are dark, too.
        show(x, 12, Sheets.pixels("            ", " ########   ", " #      #   ", " # ###  #   ", " #      #   ", " ########   "));
        Check.due("21: two parts", x.textLine(0, 0), 1);
        Check.due("21: three points in the middle", x.sign(0, 0, 4), 074647);
    }

    private static void latestSheet() {
        PostHouse x = Town.built(0);
        show(x, "LIND 3", "100");
        x.sync();
        Check.due("18: a refused sheet", show(x, 8, new byte[9]), Town.OUTSIDE);
        Check.due("19: the latest reading stays", x.read(), 0);
        Check.due("20: its lines stay", x.textLine(1, 0), 3);
        show(x, 8, new byte[8]);
        Check.due("19: another sheet", x.read(), Town.NONE);
        Check.due("20: has no lines", x.textLine(0, 0), Town.NONE);
        Town.restart(x);
        Check.due("6, 19: the latest of the log", x.read(), 0);
        Check.due("6, 21: with its signs", x.sign(1, 0, 5), 1);
        PostHouse y = new PostHouse();
        show(y, "A A", "1");
        Town.restart(y);
        Check.due("6, 20: no sheet was written", y.textLine(0, 0), Town.NONE);
    }
}
