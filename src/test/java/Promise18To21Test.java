import java.util.Arrays;

/** Promises 18 to 21, edge by edge: grey sheets, their parts, lines and signs, the reading. */
public final class Promise18To21Test {
    public static void main(String[] args) {
        promise18Sizes();
        promise18RefusedChangesNothing();
        promise18Grey();
        promise18GreyAtTheEnds();
        promise18GreyIsUnsigned();
        promise18Parts();
        promise18Neighbours();
        promise18TwoHundredParts();
        promise18SmallPartsAreNotCounted();
        promise18Near();
        promise18HangTogether();
        promise18TenLines();
        promise18FewerThanTwoLines();
        promise18Code();
        promise18House();
        promise18Streets();
        promise18Changes();
        promise18TwoHaveTheLeast();
        promise18WhichReading();
        promise19Read();
        promise20TextLine();
        promise21Refusals();
        promise21OrderInALine();
        promise21Cells();
        promise21HalfIsInk();
        promise21OtherPartsAreDark();
        promise21EveryPattern();
        promise21Words();
        promise21WordsOverlap();
        promise21NoneIsLikeNoLetter();
        promise18To21Latest();
        Check.finish();
    }

    private static int show(PostHouse x, int width, byte[] sheet) {
        Town.lay(x, sheet);
        return x.sheet(width);
    }

    private static int show(PostHouse x, String... rows) {
        return show(x, rows[0].length(), Sheets.pixels(rows));
    }

    /** Signs of three by five points, words two points further apart than signs. */
    private static int write(PostHouse x, String... lines) {
        return show(x, 60, Sheets.draw(60, 1, 2, lines));
    }

    private static PostHouse shown(String... rows) {
        PostHouse x = new PostHouse();
        show(x, rows);
        return x;
    }

    private static void promise18Sizes() {
        int[][] due = {{8, 8, 1}, {7, 7, Town.OUTSIDE}, {128, 128, 1}, {129, 129, Town.OUTSIDE}, {8, 0, Town.OUTSIDE}, {8, 7, Town.OUTSIDE}, {8, 9, Town.OUTSIDE},
            {8, 16, 1}, {8, 15, Town.OUTSIDE}, {128, 127, Town.OUTSIDE}, {128, 255, Town.OUTSIDE}, {128, 256, 1}, {128, 4096, 1}, {8, 4096, 1}, {9, 4096, Town.OUTSIDE},
            {9, 4095, 1}, {0, 8, Town.OUTSIDE}, {-8, 8, Town.OUTSIDE}, {1, 8, Town.OUTSIDE}, {Integer.MIN_VALUE, 8, Town.OUTSIDE}, {Integer.MAX_VALUE, 8, Town.OUTSIDE},
            {256, 256, Town.OUTSIDE}, {0, 0, Town.OUTSIDE}};
        for (int[] d : due) {
            PostHouse x = new PostHouse();
            Check.due("18: width " + d[0] + " of " + d[1] + " bytes", show(x, d[0], new byte[d[1]]), d[2]);
            Check.due("10: its record", x.count(17), d[2] == 1 ? 7 + d[1] : 0);
        }
    }

    private static PostHouse withSheet() {
        PostHouse x = Town.built(0);
        write(x, "LIND 3", "100");
        return x;
    }

    private static void promise18RefusedChangesNothing() {
        new Refusals("18", Promise18To21Test::withSheet)
            .due(Town.OUTSIDE, "empty", x -> x.sheet(8))
            .due(Town.OUTSIDE, "width", x -> show(x, 7, new byte[14]))
            .due(Town.OUTSIDE, "no whole rows", x -> show(x, 8, new byte[12]))
            .changedNothing();
    }

    /** How many parts of one line there are in a square of two by two points of this grey, on another, with a third somewhere. */
    private static int squares(int ink, int paper, int third) {
        byte[] sheet = new byte[48];
        Arrays.fill(sheet, (byte) paper);
        for (int k : new int[] {9, 10, 17, 18}) sheet[k] = (byte) ink;
        sheet[47] = (byte) third;
        PostHouse x = new PostHouse();
        show(x, 8, sheet);
        return Math.max(0, x.textLine(0, 0));
    }

    private static void promise18Grey() {
        int[][] due = {{0, 31, 31, 0}, {0, 32, 32, 1}, {223, 255, 255, 1}, {224, 255, 255, 0}, {100, 131, 131, 0}, {100, 132, 132, 1}, {0, 0, 0, 0}, {255, 255, 255, 0},
            // A third grey makes the least or the greatest: the square is dark if twice it is less than both together.
            {127, 255, 0, 1}, {128, 255, 0, 0}, {127, 255, 1, 1}, {128, 255, 1, 0}, {128, 255, 2, 1}, {50, 100, 0, 0}, {49, 100, 0, 1}, {16, 32, 0, 0}, {15, 32, 0, 1}, {16, 33, 0, 1}};
        for (int[] d : due) Check.due("18: ink " + d[0] + " on " + d[1] + " with " + d[2], squares(d[0], d[1], d[2]), d[3]);
    }

    /** The first byte and the last one can be the least or the greatest, too. */
    private static void promise18GreyAtTheEnds() {
        for (int at : new int[] {0, 47}) {
            for (int grey : new int[] {0, 60, 131, 132, 255}) {
                byte[] sheet = new byte[48];
                Arrays.fill(sheet, (byte) 100);
                for (int k : new int[] {19, 20, 27, 28}) sheet[k] = 95;
                sheet[at] = (byte) grey;
                PostHouse x = new PostHouse();
                show(x, 8, sheet);
                // The least is 95, or the grey; the greatest is 100, or the grey: but for 60 there is what is 32 apart.
                int parts = grey < 90 ? 0 : grey - 95 >= 32 ? 1 : 0;
                Check.due("18: a grey of " + grey + " at " + at, Math.max(0, x.textLine(0, 0)), parts);
            }
        }
    }

    private static void promise18GreyIsUnsigned() {
        Check.due("18: 127 on 159", squares(127, 159, 159), 1);
        Check.due("18: 128 on 160", squares(128, 160, 160), 1);
        Check.due("18: 100 on 200", squares(100, 200, 200), 1);
        Check.due("18: 200 on 100 is no ink", squares(200, 100, 100), 1);
        PostHouse x = new PostHouse();
        byte[] sheet = new byte[48];
        Arrays.fill(sheet, (byte) 100);
        for (int k : new int[] {9, 10, 17, 18}) sheet[k] = (byte) 200;
        show(x, 8, sheet);
        Check.due("18: all around it is", x.sign(0, 0, 2) * 10 + x.sign(0, 0, 3), 86);
    }

    private static void parts(String name, int due, String... rows) {
        PostHouse x = shown(rows);
        int all = 0;
        for (int i = 0; i < 10; i++) all += Math.max(0, x.textLine(i, 0));
        Check.due("18: " + name, all, due);
    }

    private static void promise18Parts() {
        parts("three points", 0, "        ", " ##     ", " #      ");
        parts("four points", 1, "        ", " ##     ", " ##     ");
        parts("four in a row", 1, "        ", " ####   ");
        parts("three in a row", 0, "        ", " ###    ");
        parts("four in the last row and column", 1, "       #", "       #", "       #", "       #");
        parts("four in the first row", 1, "####    ", "        ");
        parts("four in the last row", 1, "        ", "    ####");
        parts("two by two parts of two", 0, "## ## ##", "        ", "## ## ##");
        parts("one point", 0, "#       ", "        ");
    }

    private static void promise18Neighbours() {
        parts("aslant", 1, "#       ", " #      ", "  #     ", "   #    ");
        parts("aslant the other way", 1, "   #    ", "  #     ", " #      ", "#       ");
        parts("up and aslant", 1, "  #     ", "  #     ", " #      ", " #      ");
        parts("a row does not go on in the next one", 0, "      ##", "##      ", "        ");
        parts("nor aslant over the edge", 0, "       #", "       #", "#       ", "#       ");
        parts("two with a column between", 2, "## ##   ", "## ##   ");
        parts("two with a row between", 2, "##      ", "##      ", "        ", "##      ", "##      ");
        parts("they touch at a corner", 1, "##      ", "##      ", "  ##    ", "  ##    ");
        parts("one that comes together at last", 1, "# #     ", "# #     ", "###     ");
        parts("a snake", 1, "########", "       #", "########", "#       ", "########");
    }

    /** A sheet of squares of two by two points, so many of them, 42 in a row. */
    private static byte[] squares(int many, boolean smallPartFirst) {
        byte[] sheet = new byte[128 * 32];
        Arrays.fill(sheet, (byte) 255);
        for (int n = 0; n < many; n++) {
            int top = n / 42 * 3, left = n % 42 * 3;
            for (int k = 0; k < 4; k++) sheet[(top + k / 2) * 128 + left + k % 2] = 0;
        }
        // Three points are no part: without the fourth the first square does not count.
        if (smallPartFirst) sheet[0] = (byte) 255;
        return sheet;
    }

    private static int boxes(PostHouse x) {
        int all = 0;
        for (int i = 0; i < 10; i++) all += Math.max(0, x.textLine(i, 0));
        return all;
    }

    private static void promise18TwoHundredParts() {
        for (int many = 199; many <= 202; many++) {
            PostHouse x = new PostHouse();
            show(x, 128, squares(many, false));
            Check.due("18: " + many + " parts", boxes(x), Math.min(200, many));
            Check.due("18: the first ones", x.textLine(4, 0), Math.min(200, many) - 4 * 42);
        }
        PostHouse x = new PostHouse();
        show(x, 128, squares(420, false));
        Check.due("18: 420 parts", boxes(x), 200);
        Check.due("20: lines of those that count alone", x.textLine(5, 0), Town.NONE);
        // The 201st part is high: it would hang all lines together.
        byte[] high = squares(200, false);
        for (int y = 15; y < 32; y++) high[y * 128 + 127] = 0;
        show(x, 128, high);
        Check.due("18: the 201st begins further down", boxes(x), 200);
        byte[] first = squares(200, false);
        for (int y = 0; y < 14; y++) first[y * 128 + 127] = 0;
        PostHouse y = new PostHouse();
        show(y, 128, first);
        Check.due("18: a part that begins in the first row is among the first 200", y.textLine(0, 0), 200);
    }

    private static void promise18SmallPartsAreNotCounted() {
        for (int many = 200; many <= 202; many++) {
            PostHouse x = new PostHouse();
            show(x, 128, squares(many, true));
            Check.due("18: three points and " + (many - 1) + " parts", boxes(x), Math.min(200, many - 1));
        }
    }

    private static void lines(String name, String due, String... rows) {
        PostHouse x = shown(rows);
        StringBuilder b = new StringBuilder();
        for (int i = 0; x.textLine(i, 0) >= 0; i++) b.append(x.textLine(i, 0)).append('@').append(x.textLine(i, 1)).append(',').append(x.textLine(i, 2)).append(' ');
        Check.due("18, 20: " + name, b.toString(), due);
    }

    private static void promise18Near() {
        lines("of heights 4 and 2 one row in common", "2@0,0 ", "##      ", "##      ", "##      ", "##  ##  ", "    ##  ");
        lines("none in common", "1@0,0 1@4,4 ", "##      ", "##      ", "##      ", "##      ", "    ##  ", "    ##  ");
        lines("of heights 4 and 3 one row in common", "1@0,0 1@3,4 ", "##      ", "##      ", "##      ", "##  ##  ", "    ##  ", "    ##  ");
        lines("of heights 4 and 3 two rows in common", "2@0,0 ", "##      ", "##      ", "##  ##  ", "##  ##  ", "    ##  ");
        lines("the lower one is the higher box", "2@0,0 ", "    ##  ", "##  ##  ", "##      ", "##      ", "##      ");
        lines("of heights 3 and 4, the lesser first", "1@0,4 1@2,0 ", "    ##  ", "    ##  ", "##  ##  ", "##      ", "##      ", "##      ");
        lines("one height within the other", "2@0,0 ", "##      ", "##  ##  ", "##  ##  ", "##      ");
        lines("of heights 1 one row", "2@0,0 ", "#### ####");
        lines("of heights 1 and 2", "2@0,0 ", "#### #### ", "####      ");
        lines("of heights 5 and 5 three rows", "2@0,0 ", "##      ", "##      ", "##  ##  ", "##  ##  ", "##  ##  ", "    ##  ", "    ##  ");
        lines("of heights 5 and 5 two rows", "1@0,0 1@3,4 ", "##      ", "##      ", "##      ", "##  ##  ", "##  ##  ", "    ##  ", "    ##  ", "    ##  ");
    }

    private static void promise18HangTogether() {
        lines("by a third box", "3@0,1 ", " ##    #  ", " ##    #  ", "       #  ", " ##    #  ", " ##    #  ");
        lines("that is found before", "3@0,0 ", "#   ##    ", "#   ##    ", "#         ", "#   ##    ", "#   ##    ");
        lines("by a chain down", "3@0,0 ", "##         ", "##         ", "##  ##     ", "##  ##     ", "    ##  ## ", "    ##  ## ", "        ## ", "        ## ");
        lines("two chains beside each other", "2@0,0 2@4,0 ", "##     ## ", "##     ## ", "          ", "          ", "##     ## ", "##     ## ");
        lines("highest top and least left of different boxes", "2@0,1 ", "     ## ", " ##  ## ", " ##  ## ", " ##     ");
        lines("a line that begins further down is further down", "1@0,5 1@2,0 1@4,5 ", "     ## ", "     ## ", "##      ", "##      ", "     ## ", "     ## ");
    }

    private static void promise18TenLines() {
        String[] rows = new String[33];
        Arrays.fill(rows, "        ");
        for (int k = 0; k < 11; k++) {
            rows[3 * k] = "  ##    ";
            rows[3 * k + 1] = "  ##    ";
        }
        PostHouse x = shown(rows);
        Check.due("20: the tenth line", x.textLine(9, 0) * 100 + x.textLine(9, 1), 127);
        Check.due("20: the eleventh", x.textLine(10, 0), Town.NONE);
        Check.due("21: a box of the tenth line", x.sign(9, 0, 1), 27);
        Check.due("21: of the eleventh", x.sign(10, 0, 1), Town.NONE);
        PostHouse y = shown(Arrays.copyOf(rows, 30));
        Check.due("20: ten lines", y.textLine(9, 1) + y.textLine(10, 1), 26);
        // The tenth line is the last one that is read.
        String[] ten = {"A", "A", "A", "A", "A", "A", "A", "A", "LIND 3", "100"};
        PostHouse z = Town.built(0);
        Check.due("18: ten lines", show(z, 32, Sheets.draw(32, 1, 2, ten)), 0);
        PostHouse w = Town.built(0);
        byte[] eleven = Arrays.copyOf(Sheets.draw(32, 1, 2, ten), 32 * 76);
        Arrays.fill(eleven, 32 * 71, eleven.length, (byte) 255);
        for (int k = 32 * 72; k < 32 * 72 + 4; k++) eleven[k] = 0;
        Check.due("18: an eleventh is not read", show(w, 32, eleven), 0);
        Check.due("20: nor told", w.textLine(10, 0), Town.NONE);
        PostHouse v = Town.built(0);
        Check.due("18: of nine it is", show(v, 32, Sheets.draw(32, 1, 2, "A", "A", "A", "A", "A", "A", "LIND 3", "100", "K")), 2);
    }

    private static void promise18FewerThanTwoLines() {
        PostHouse x = Town.built(0);
        Check.due("18: 1: no line", write(x, " "), 1);
        Check.due("18: 1: one line", write(x, "100"), 1);
        Check.due("18: two lines", write(x, "LIND 3", "100"), 0);
        Check.due("18: three lines", write(x, "100", "LIND 3", "100"), 0);
    }

    private static void promise18Code() {
        PostHouse x = Town.built(0);
        Check.due("18: one sign", write(x, "KAI 4", "7"), 0);
        Check.due("18: five signs", write(x, "KAI 4", "00007"), 0);
        Check.due("18: 2: six signs", write(x, "KAI 4", "000007"), 2);
        Check.due("18: 2: a letter among them", write(x, "LIND 3", "1K0"), 2);
        Check.due("18: 2: a letter at last", write(x, "LIND 3", "10K"), 2);
        Check.due("18: 2: a letter at first", write(x, "LIND 3", "K100"), 2);
        PostHouse y = Town.built(0);
        Check.due("18: the first word alone", write(y, "LIND 3", "100 K"), 0);
        Check.due("18: two words of digits", write(y, "KAI 4", "7 7"), 0);
        Check.due("18: 2: a second word does not help", write(y, "LIND 3", "K 100"), 2);
        Check.due("18: 3: no place", write(y, "LIND 3", "101"), 3);
        Check.due("18: 3: code 0", write(y, "LIND 3", "0"), 3);
        Check.due("18: 3: code 99999", write(y, "LIND 3", "99999"), 3);
        PostHouse z = new PostHouse();
        Town.book(z, "P99999,A;S99999,L,0,0,0;R99999,L,0,1,999;H99999,L,999;");
        Check.due("18: the greatest code and house", write(z, "L 999", "99999"), 0);
        Check.due("18: 3: its first four digits", write(z, "L 999", "9999"), 3);
    }

    private static void promise18House() {
        PostHouse x = Town.built(0);
        Check.due("18: 4: one word", write(x, "3", "100"), 4);
        Check.due("18: 4: one word with letters", write(x, "LIND3", "100"), 4);
        Check.due("18: two words", write(x, "LIND 3", "100"), 0);
        Check.due("18: three signs", write(x, "LIND 003", "100"), 0);
        Check.due("18: 4: four signs", write(x, "LIND 0003", "100"), 4);
        PostHouse y = Town.built(0);
        Check.due("18: 4: a letter", write(y, "LIND K", "100"), 4);
        Check.due("18: 4: a letter behind", write(y, "LIND 3K", "100"), 4);
        Check.due("18: 4: a letter before", write(y, "LIND K3", "100"), 4);
        Check.due("18: the last word alone", write(y, "LI ND 3", "100"), 0);
        Check.due("18: 4: the word before it does not help", write(y, "LIND 3 K", "100"), 4);
        Check.due("18: 6: no such house", write(y, "LIND 4", "100"), 6);
        Check.due("18: 6: house 0", write(y, "LIND 0", "100"), 6);
        Check.due("18: 6: house 999", write(y, "LIND 999", "100"), 6);
    }

    private static void promise18Streets() {
        PostHouse x = Town.built(0);
        Check.due("18: a point of another street", write(x, "TOR 3", "100"), 6);
        Check.due("18: its own", write(x, "TOR 5", "100"), 0);
        Check.due("19: its point", x.read(), 2);
        Check.due("18: 5: a street of another place", write(x, "KAI 4", "100"), 5);
        Check.due("18: in that place", write(x, "KAI 4", "7"), 0);
        Town.book(x, "P9,LEER;");
        Check.due("18: 5: a place without streets", write(x, "LIND 3", "9"), 5);
        PostHouse y = new PostHouse();
        Town.book(y, "P5,A;P6,B;S6,LIND,0,0,0;R6,LIND,0,1,9;H6,LIND,1;S5,LIND,0,0,0;R5,LIND,0,1,9;H5,LIND,1;");
        Check.due("18: streets of one name in two places", write(y, "LIND 1", "5"), 0);
        Check.due("19: its point", y.read(), 1);
        Check.due("18: the other place", write(y, "LIND 1", "6") * 10 + y.read(), 0);
    }

    private static void promise18Changes() {
        PostHouse x = new PostHouse();
        Town.book(x, "P5,A;S5,BERGHOF,0,0,0;R5,BERGHOF,0,1,9;H5,BERGHOF,1;");
        String[][] due = {{"BERGHOF", "0"}, {"BERGHO", "0"}, {"BERGH", "0"}, {"BERG", "5"}, {"ERGHOF", "0"}, {"RGHOF", "0"}, {"GHOF", "5"}, {"BERGHOFA", "0"},
            {"BERGHOFAA", "0"}};
        for (String[] d : due) Check.due("18: " + d[0], write(x, d[0] + " 1", "5"), Integer.parseInt(d[1]));
        PostHouse y = new PostHouse();
        Town.book(y, "P5,A;S5,BERGHOF,0,0,0;R5,BERGHOF,0,1,9;H5,BERGHOF,1;");
        String[][] more = {{"BERGHOFAAA", "5"}, {"ABERGHOF", "0"}, {"AABERGHOF", "0"}, {"AAABERGHOF", "5"}, {"BARGHOF", "0"}, {"BARGLOF", "0"}, {"BARGLAF", "5"},
            {"BREGHOF", "0"}, {"EBRGHOF", "0"}, {"AERGHO", "0"}, {"AERGH", "5"}};
        for (String[] d : more.clone()) {
            PostHouse z = new PostHouse();
            Town.book(z, "P5,A;S5,BERGHOF,0,0,0;R5,BERGHOF,0,1,9;H5,BERGHOF,1;");
            Check.due("18: " + d[0], write(z, d[0] + " 1", "5"), Integer.parseInt(d[1]));
        }
        PostHouse w = new PostHouse();
        Town.book(w, "P5,A;S5,AAAAAAAAAA,0,0,0;S5,ZZZZZZZZZ,0,0,0;S5,A,0,0,0;R5,AAAAAAAAAA,0,1,9;R5,ZZZZZZZZZ,0,1,9;R5,A,0,1,9;H5,AAAAAAAAAA,1;H5,ZZZZZZZZZ,1;H5,A,1;");
        Object[][] names = {{"AAAAAAAAAA", 0, 0}, {"AAAAAAAA", 0, 0}, {"AAAAAAA", 5, -1}, {"AAAAAAAAAAAA", 0, 0}, {"AAAAAAAAAAAAA", 5, -1}, {"ZZZZZZZ", 0, 1}, {"ZZZZZZ", 5, -1}, {"AAA", 0, 2}};
        for (Object[] n : names) Check.due("18: " + n[0], write(w, n[0] + " 1", "5") * 10 + w.read(), (Integer) n[1] * 10 + (Integer) n[2]);
        Check.due("18: words are put together", write(y, "BER GH OF 1", "5"), 0);
        Check.due("18: two of them changed", write(y, "BAR GH AF 1", "5"), 0);
    }

    private static void promise18TwoHaveTheLeast() {
        PostHouse x = new PostHouse();
        Town.book(x, "P5,A;S5,AB,0,0,0;S5,CD,0,0,0;S5,AD,0,0,0;R5,AB,0,1,9;R5,CD,0,1,9;R5,AD,0,1,9;H5,AB,1;H5,CD,1;H5,AD,1;");
        Check.due("18: just one has none", write(x, "AB 1", "5") * 10 + x.read(), 0);
        Check.due("18: the second one has none", write(x, "CD 1", "5") * 10 + x.read(), 1);
        Check.due("18: the last one has none", write(x, "AD 1", "5") * 10 + x.read(), 2);
        Check.due("18: 5: two have one change", write(x, "AE 1", "5"), 5);
        Check.due("18: 5: two have one change", write(x, "ED 1", "5"), 5);
        Check.due("18: just one has one change", write(x, "CE 1", "5") * 10 + x.read(), 1);
        Check.due("18: 5: all have two", write(x, "EF 1", "5"), 5);
        Town.book(x, "S5,EEEE,0,0,0;R5,EEEE,0,1,9;H5,EEEE,1;");
        Check.due("18: one has two, the others more", write(x, "EEFF 1", "5") * 10 + x.read(), 3);
    }

    private static void promise18WhichReading() {
        PostHouse x = Town.built(0);
        Check.due("18: 2 before 4", write(x, "3", "K"), 2);
        Check.due("18: 3 before 4", write(x, "3", "8"), 3);
        Check.due("18: 4 before 5", write(x, "NIRGENDS K", "100"), 4);
        Check.due("18: 5 before 6", write(x, "NIRGENDS 8", "100"), 5);
        Check.due("18: 2 before 6", write(x, "LIND 8", "000100"), 2);
        Check.due("18: all of these are acts", x.count(16), 2 + 5);
    }

    private static void promise19Read() {
        PostHouse x = Town.built(0);
        Check.due("19: no sheet", x.read(), Town.NONE);
        String[][] sheets = {{"LIND 12", "100"}, {"LIND 12", "101"}, {"TOR 5", "100"}, {"LIND 4", "100"}, {"KAI 8", "7"}, {"100"}};
        int[] due = {1, Town.NONE, 2, Town.NONE, 4, Town.NONE};
        for (int k = 0; k < due.length; k++) {
            write(x, sheets[k]);
            Check.due("19: of sheet " + k, x.read(), due[k]);
        }
        write(x, "KAI 6", "7");
        Town.book(x, "H7,KAI,6;");
        Check.due("19: what the book gets later does not count", x.read(), Town.NONE);
    }

    private static void promise20TextLine() {
        PostHouse x = Town.built(0);
        Check.due("20: no sheet", x.textLine(0, 0), Town.NONE);
        Check.due("20: OUTSIDE without a sheet", x.textLine(0, 3), Town.OUTSIDE);
        write(x, "LIND 3", "100");
        Check.due("20: line -1", x.textLine(-1, 0), Town.NONE);
        Check.due("20: line 0", x.textLine(0, 0) * 100 + x.textLine(0, 1) * 10 + x.textLine(0, 2), 511);
        Check.due("20: line 1", x.textLine(1, 0) * 100 + x.textLine(1, 1) * 10 + x.textLine(1, 2), 381);
        Check.due("20: line 2 of two", x.textLine(2, 0) + x.textLine(2, 1) + x.textLine(2, 2), -3);
        Check.due("20: what -1", x.textLine(0, -1), Town.OUTSIDE);
        Check.due("20: what 3", x.textLine(0, 3), Town.OUTSIDE);
        Check.due("20: OUTSIDE of no line", x.textLine(2, 3), Town.OUTSIDE);
        Check.due("20: far away", x.textLine(Integer.MIN_VALUE, 0) + x.textLine(Integer.MAX_VALUE, 2), -2);
        Check.due("20: far away", x.textLine(0, Integer.MIN_VALUE), Town.OUTSIDE);
    }

    private static void promise21Refusals() {
        PostHouse x = Town.built(0);
        Check.due("21: no sheet", x.sign(0, 0, 0), Town.NONE);
        Check.due("21: OUTSIDE without a sheet", x.sign(0, 0, 8), Town.OUTSIDE);
        write(x, "LIND 3", "100");
        int[][] due = {{-1, 0, 0, Town.NONE}, {2, 0, 0, Town.NONE}, {0, -1, 0, Town.NONE}, {0, 5, 0, Town.NONE}, {1, 3, 0, Town.NONE}, {0, 0, -1, Town.OUTSIDE}, {0, 0, 8, Town.OUTSIDE},
            {9, 9, 8, Town.OUTSIDE}, {0, 0, 0, 1}, {0, 4, 0, 19}, {1, 2, 0, 9}, {0, 0, 7, 1}, {1, 2, 3, 5}, {0, Integer.MAX_VALUE, 0, Town.NONE},
            {Integer.MIN_VALUE, Integer.MIN_VALUE, 0, Town.NONE}};
        for (int[] d : due) Check.due("21: sign(" + d[0] + ", " + d[1] + ", " + d[2] + ")", x.sign(d[0], d[1], d[2]), d[3]);
    }

    private static void promise21OrderInALine() {
        PostHouse x = shown("     ##     ", "     ##  ## ", "##   ##  ## ", "##   ##  ## ");
        Check.due("21: by left", x.sign(0, 0, 0) * 100 + x.sign(0, 1, 0) * 10 + x.sign(0, 2, 0), 59);
        PostHouse y = shown("       #    ", "       #    ", "####   #    ", "       #    ", "##     #    ", "##     #    ");
        Check.due("21: of one left by top", y.sign(0, 0, 1) * 100 + y.sign(0, 1, 1) * 10 + y.sign(0, 2, 1), 240);
        // Two that are aslant have one left and one top: the inner one has the first point.
        PostHouse z = shown("   #   #    ", "  #   #     ", " #   #      ", "#   #       ", "   #        ", "  #         ", " #          ", "#           ");
        Check.due("21: two boxes", z.textLine(0, 0), 2);
        Check.due("21: of one left and top by their first points", z.sign(0, 0, 2) * 10 + z.sign(0, 1, 2), 48);
        // The right one is found first, as its first point is further up.
        PostHouse w = shown("       ## ", "##     ## ", "##     ## ");
        Check.due("21: found last, but left of the other", w.sign(0, 0, 0) * 10 + w.sign(0, 1, 0), 7);
    }

    private static void cells(String name, int due, String... rows) {
        Check.due("21: " + name, shown(rows).sign(0, 0, 4), due);
    }

    private static void promise21Cells() {
        cells("four points high and three wide", 044447, "#       ", "#       ", "#       ", "#       ", "###     ");
        cells("all of three by five", 077777, "###     ", "###     ", "###     ", "###     ", "###     ");
        cells("one point wide: the last column alone has points", 011111, "#       ", "#       ", "#       ", "#       ", "#       ");
        cells("two points wide: columns from 0, 0, 1", 033333, "##      ", "##      ", "##      ", "##      ", "##      ");
        cells("one point high: the last row alone has points", 000007, "####    ");
        cells("two by two", 000303, "##      ", "##      ");
        cells("three points high: rows from 0, 0, 1, 1, 2", 007077, "###     ", "###     ", "###     ");
        cells("three points high, one in the middle", 007027, "###     ", " #      ", "###     ");
        cells("four high", 007777, "###     ", "###     ", "###     ", "###     ");
        cells("six high: the last row has two", 044447, "#       ", "#       ", "#       ", "#       ", "##      ", "###     ");
        // Columns of 1, 1 and 2 points; of 1, 2 and 2; rows of 1, 1, 2, 1 and 2.
        cells("four wide", 075455, "####    ", "#  #    ", "#       ", "#  #    ", "#  #    ");
        cells("five wide", 076522, "#####   ", "# #     ", "#  #    ", " #      ", " #      ");
        cells("seven high", 046267, "#       ", "##      ", " #      ", " #      ", "##      ", "#       ", "###     ");
        for (int k = 0; k < 15; k++) {
            StringBuilder[] rows = new StringBuilder[5];
            for (int r = 0; r < 5; r++) rows[r] = new StringBuilder("###     ");
            rows[k / 3].setCharAt(k % 3, ' ');
            String[] all = new String[5];
            for (int r = 0; r < 5; r++) all[r] = rows[r].toString();
            cells("all but cell " + k, 077777 ^ 16384 >> k, all);
        }
    }

    /** A full box of cells of so many points, of one of which the first so many are not dark. */
    private static byte[] holed(int cellWidth, int cellHeight, int cell, int light) {
        int width = 3 * cellWidth + 2;
        byte[] sheet = new byte[Math.max(8, width) * (5 * cellHeight + 1)];
        Arrays.fill(sheet, (byte) 255);
        for (int y = 0; y < 5 * cellHeight; y++) {
            for (int x = 0; x < 3 * cellWidth; x++) {
                int number = y % cellHeight * cellWidth + x % cellWidth;
                boolean hole = y / cellHeight * 3 + x / cellWidth == cell && number < light;
                sheet[y * Math.max(8, width) + x] = (byte) (hole ? 255 : 0);
            }
        }
        return sheet;
    }

    private static void promise21HalfIsInk() {
        int[][] sizes = {{1, 1}, {2, 1}, {1, 2}, {3, 1}, {2, 2}, {1, 3}, {3, 3}, {4, 3}};
        for (int[] size : sizes) {
            int all = size[0] * size[1];
            for (int cell = 0; cell < 15; cell++) {
                for (int light = 0; light <= all; light++) {
                    PostHouse x = new PostHouse();
                    show(x, Math.max(8, 3 * size[0] + 2), holed(size[0], size[1], cell, light));
                    int due = 2 * (all - light) >= all ? 077777 : 077777 ^ 16384 >> cell;
                    Check.due("21: " + (all - light) + " of " + all + " points of cell " + cell, x.sign(0, 0, 4), due);
                }
            }
        }
    }

    private static void promise21OtherPartsAreDark() {
        // Columns of 2, 3 and 3 points.
        cells("nothing within", 074447, "########", "#      #", "#      #", "#      #", "########");
        cells("one point of a small part", 074447, "########", "#      #", "#  #   #", "#      #", "########");
        cells("two points of a small part", 074647, "########", "#      #", "#  ##  #", "#      #", "########");
        cells("a part within", 074777, "########", "#      #", "# #### #", "# #### #", "########");
        PostHouse x = shown("########", "#      #", "# ###  #", "#      #", "########");
        Check.due("20: three points are no box", x.textLine(0, 0), 1);
        PostHouse y = shown("########", "#      #", "# #### #", "#      #", "########");
        Check.due("20: four are", y.textLine(0, 0), 2);
        Check.due("21: the inner one's cells", y.sign(0, 1, 4), 000007);
    }

    private static final String[] FONT = ("75557 26227 71747 71717 55711 74717 74757 71122 75757 75717 25755 65656 34443 65556 74647 74644 34553 "
        + "55755 72227 11152 55655 44447 57755 75555 25552 65644 25563 65655 34216 72222 55557 55552 55775 55255 55222 71247").split(" ");

    /** By the document's words: the one symbol of these that differs in the fewest cells, in three at most. */
    private static int nearest(int pattern, int from, int to) {
        int[] differing = new int[4];
        int found = Town.NONE;
        for (int s = from; s < to; s++) {
            int differ = Integer.bitCount(pattern ^ Integer.parseInt(FONT[s], 8));
            if (differ <= 3) differing[differ]++;
        }
        for (int least = 0; least <= 3; least++) {
            if (differing[least] == 0) continue;
            if (differing[least] > 1) return Town.NONE;
            for (int s = from; s < to; s++) if (Integer.bitCount(pattern ^ Integer.parseInt(FONT[s], 8)) == least) found = s - from;
            return found;
        }
        return Town.NONE;
    }

    private static boolean inkAt(int pattern, int x, int y) {
        return x >= 0 && x < 3 && y >= 0 && y < 5 && (pattern >> 14 - 3 * y - x & 1) != 0;
    }

    /** Whether the cells of a pattern are one part of four points or more that fills a box of three by five. */
    private static boolean isOnePart(int pattern) {
        boolean fills = Integer.bitCount(pattern) >= 4 && (pattern & 070000) != 0 && (pattern & 7) != 0 && (pattern & 044444) != 0 && (pattern & 011111) != 0;
        if (!fills) return false;
        int reached = Integer.highestOneBit(pattern);
        for (int before = 0; before != reached;) {
            before = reached;
            for (int k = 0; k < 15; k++) {
                if ((reached >> 14 - k & 1) == 0) continue;
                for (int n = 0; n < 9; n++) if (inkAt(pattern, k % 3 + n % 3 - 1, k / 3 + n / 3 - 1)) reached |= 16384 >> 3 * (k / 3 + n / 3 - 1) + k % 3 + n % 3 - 1;
            }
        }
        return reached == pattern;
    }

    private static void stamp(byte[] sheet, int width, int left, int top, int pattern) {
        for (int k = 0; k < 15; k++) sheet[(top + k / 3) * width + left + k % 3] = (byte) (inkAt(pattern, k % 3, k / 3) ? 0 : 255);
    }

    /** Every row of cells that can be one part of three by five points, as a digit and as a letter. */
    private static void promise21EveryPattern() {
        int next = 1;
        int[] seen = new int[2];
        while (next < 1 << 15) {
            byte[] sheet = new byte[128 * 24];
            Arrays.fill(sheet, (byte) 255);
            int[] drawn = new int[128];
            int n = 0;
            for (; next < 1 << 15 && n < 128; next++) {
                if (!isOnePart(next)) continue;
                stamp(sheet, 128, n % 32 * 4, n / 32 * 6, next);
                drawn[n++] = next;
            }
            PostHouse x = new PostHouse();
            show(x, 128, sheet);
            for (int k = 0; k < n; k++) {
                int digit = nearest(drawn[k], 0, 10), letter = nearest(drawn[k], 10, 36);
                Check.due("21: the digit of " + Integer.toOctalString(drawn[k]), x.sign(k / 32, k % 32, 5), digit);
                Check.due("21: the letter of " + Integer.toOctalString(drawn[k]), x.sign(k / 32, k % 32, 6), letter);
                if (digit == Town.NONE) seen[0]++;
                if (letter == Town.NONE) seen[1]++;
            }
        }
        Check.due("21: some are none", seen[0] > 1000 && seen[1] > 1000 ? 1 : 0, 1);
    }

    /** Two boxes with tops on one row, two points wide, of these heights and with this gap. */
    private static int begins(int height, int gap, int height2) {
        byte[] sheet = new byte[16 * 14];
        Arrays.fill(sheet, (byte) 255);
        for (int y = 0; y < height; y++) for (int x = 0; x < 2; x++) sheet[y * 16 + x] = 0;
        for (int y = 0; y < height2; y++) for (int x = 0; x < 2; x++) sheet[y * 16 + 2 + gap + x] = 0;
        PostHouse x = new PostHouse();
        show(x, 16, sheet);
        Check.due("21: the first one of a line", x.sign(0, 0, 7), 1);
        return x.sign(0, 1, 7);
    }

    private static void promise21Words() {
        for (int height = 2; height <= 13; height++) {
            for (int gap = 1; gap <= 6; gap++) {
                int due = 5 * gap >= 2 * height ? 1 : 0;
                Check.due("21: a gap of " + gap + " behind a height of " + height, begins(height, gap, height), due);
                Check.due("21: the height of the first counts", begins(height, gap, 3), due);
                Check.due("21: and not that of the second", begins(height, gap, 13), due);
            }
        }
    }

    private static void promise21WordsOverlap() {
        PostHouse x = shown("######## ## ", "#      # ## ", "# #### # ## ", "#      # ## ", "######## ## ");
        Check.due("21: one within the other", x.sign(0, 1, 7), 0);
        Check.due("21: the gap is that behind the box before, wherever others end", x.sign(0, 2, 7), 1);
        PostHouse y = shown("##        ", "##  ##    ", "##  ##    ");
        Check.due("21: two points behind three of height", y.sign(0, 1, 7), 1);
        Check.due("21: a line below begins a word, too", shown("## ##   ", "## ##   ", "        ", "##      ", "##      ").sign(1, 0, 7), 1);
    }

    private static void promise21NoneIsLikeNoLetter() {
        int none = 0;
        for (int p = 077777; none == 0; p--) if (isOnePart(p) && nearest(p, 10, 36) == Town.NONE) none = p;
        for (int many = 0; many <= 4; many++) {
            PostHouse x = new PostHouse();
            Town.book(x, "P5,A;S5,LIND,0,0,0;R5,LIND,0,1,9;H5,LIND,1;");
            byte[] sheet = Sheets.draw(60, 1, 2, "LIND 1", "5");
            for (int k = 0; k < many; k++) stamp(sheet, 60, 1 + 4 * k, 1, none);
            Check.due("18: " + many + " signs that are no letter", show(x, 60, sheet), many <= 2 ? 0 : 5);
            if (many > 0) Check.due("21: no letter", x.sign(0, 0, 6), Town.NONE);
        }
        PostHouse x = new PostHouse();
        Town.book(x, "P5,A;S5,LIND,0,0,0;R5,LIND,0,1,9;H5,LIND,1;");
        int noDigit = 0;
        for (int p = 077777; noDigit == 0; p--) if (isOnePart(p) && nearest(p, 0, 10) == Town.NONE) noDigit = p;
        byte[] sheet = Sheets.draw(60, 1, 2, "LIND 1", "5");
        stamp(sheet, 60, 1, 8, noDigit);
        Check.due("18: 2: a sign that is no digit", show(x, 60, sheet), 2);
        sheet = Sheets.draw(60, 1, 2, "LIND 1", "5");
        stamp(sheet, 60, 1 + 4 * 4 + 2, 1, noDigit);
        Check.due("18: 4: a sign that is no digit", show(x, 60, sheet), 4);
    }

    private static void promise18To21Latest() {
        PostHouse x = Town.built(0);
        write(x, "LIND 3", "100");
        x.sync();
        write(x, "A");
        Check.due("19: another sheet told none", x.read(), Town.NONE);
        Check.due("20: it has one line", x.textLine(0, 0) * 10 + x.textLine(1, 0), 9);
        Check.due("21: of one box", x.sign(0, 0, 6) + x.sign(0, 1, 6), -1);
        Check.due("18: refused", show(x, 8, new byte[9]), Town.OUTSIDE);
        Check.due("20: the latest that was not refused", x.textLine(0, 0), 1);
        show(x, 8, new byte[8]);
        Check.due("20: no line at all", x.textLine(0, 0), Town.NONE);
        Check.due("21: no sign at all", x.sign(0, 0, 0), Town.NONE);
        Check.due("6: four acts", Disk.restart(x), 3);
        Check.due("6, 19: the latest of those in the log", x.read(), 0);
        Check.due("6, 20: its lines", x.textLine(0, 0) * 10 + x.textLine(1, 0), 53);
        Check.due("6, 21: its signs", x.sign(1, 0, 5), 1);
        x.poke(1, 100, 1);
        Check.due("6: none", Disk.restart(x), 0);
        Check.due("6, 19: there was no sheet", x.read(), Town.NONE);
        Check.due("6, 20: no line", x.textLine(0, 0), Town.NONE);
    }
}
