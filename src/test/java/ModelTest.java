import java.lang.reflect.InvocationTargetException;
import java.lang.reflect.Method;
import java.util.ArrayDeque;
import java.util.Deque;
import java.util.HashMap;
import java.util.Map;
import java.util.Random;

/**
 * Promises 1 to 76: plays long runs of chance calls (of fixed seeds) on PostHouse and on the slow model of the document,
 * and asks both for all that can be asked.
 */
public final class ModelTest {
    private static final Map<String, Method> HOUSE = methods(PostHouse.class), MODEL = methods(HouseModel.class);

    private static final Map<String, Integer> DONE = new java.util.TreeMap<>();

    private static Map<String, Method> methods(Class<?> of) {
        Map<String, Method> found = new HashMap<>();
        for (Method m : of.getDeclaredMethods()) {
            if (!m.isSynthetic() && java.lang.reflect.Modifier.isPublic(m.getModifiers())) found.put(m.getName(), m);
        }
        return found;
    }

    private final PostHouse house = new PostHouse();
    private final HouseModel model = new HouseModel();
    private final Random random;
    private final Deque<String> calls = new ArrayDeque<>();
    private final int[] answers;
    private int wrong = 0;
    private int clockDays = 0;

    private ModelTest(long seed, int[] answers) {
        random = new Random(seed);
        this.answers = answers;
    }

    private static Object answer(Object on, Method m, Object[] args) {
        try {
            Object a = m.invoke(on, args);
            return a == null ? "nothing" : ((Number) a).longValue();
        } catch (InvocationTargetException e) {
            return e.getCause().getClass().getSimpleName();
        } catch (IllegalAccessException e) {
            throw new IllegalStateException(e);
        }
    }

    /** Calls both; answers what the house did, NONE for an exception. */
    private int call(String name, Object... args) {
        Object got = answer(house, HOUSE.get(name), args);
        Object want = answer(model, MODEL.get(name), args);
        String told = name + java.util.Arrays.toString(args) + " answered " + got;
        calls.add(told);
        if (calls.size() > 60) calls.remove();
        if (!got.equals(want)) {
            wrong++;
            if (wrong <= 3) {
                System.out.println("-- the last calls:");
                for (String c : calls) System.out.println("   " + c);
                System.out.println("   " + told + ", due is " + want);
            }
        }
        if (!(got instanceof Long)) return -1;
        long a = (Long) got;
        DONE.merge(name + (a < -1 ? " " + (a <= -1000 ? "fault" : String.valueOf(a)) : a == -1 ? " none" : " done"), 1, Integer::sum);
        if (a >= -116 && a < 0) answers[(int) -a]++;
        return (int) a;
    }

    private int upTo(int n) {
        return n <= 0 ? 0 : random.nextInt(n);
    }

    private boolean oneIn(int n) {
        return random.nextInt(n) == 0;
    }

    /** Mostly a number of a thing of this kind, as count() numbers the kinds. */
    private int some(int kind) {
        int n = Math.max(0, house.count(kind));
        if (oneIn(40)) return oneIn(2) ? -1 : n;
        return upTo(n);
    }

    private int within(int least, int most) {
        if (oneIn(60)) return least - 1;
        if (oneIn(60)) return most + 1;
        if (oneIn(20)) return oneIn(2) ? least : most;
        return least + upTo(most - least + 1);
    }

    private int customer() {
        if (oneIn(60)) return upTo(6) - 1;
        return 4 + some(10);
    }

    private int itemIn(int state) {
        for (int k = 0; k < 12; k++) {
            int item = upTo(house.count(5));
            if (house.about(item, 0) == state) return item;
        }
        return some(5);
    }

    private int day() {
        return Math.max(0, house.now()) / 1440;
    }

    private void lay(byte[] bytes) {
        call("end", 0);
        for (int at = 0; at < Math.min(bytes.length, 4096); at += 20) {
            if (at + 20 > 4096) {
                at = 4076;
                call("end", at);
            }
            int[] w = Sheets.words(bytes, at);
            call("feed", w[0], w[1], w[2], w[3], w[4]);
        }
        call("end", Math.min(bytes.length, 4096));
        if (oneIn(50)) call("end", upTo(4200) - 50);
    }

    private String name() {
        int length = oneIn(20) ? 1 + upTo(10) : 1 + upTo(3);
        StringBuilder b = new StringBuilder();
        for (int k = 0; k < length; k++) b.append((char) ('A' + upTo(oneIn(3) ? 26 : 3)));
        return b.toString();
    }

    private final java.util.List<Integer> codes = new java.util.ArrayList<>();
    private final java.util.List<String> streets = new java.util.ArrayList<>();

    private int code() {
        return codes.isEmpty() || oneIn(30) ? 1 + upTo(300) : codes.get(upTo(codes.size()));
    }

    private String entry() {
        switch (upTo(oneIn(3) ? 2 : 12)) {
            case 0: {
                int code = oneIn(30) ? upTo(200000) : 1 + upTo(400);
                if (code > 0 && code < 100000) codes.add(code);
                return "P" + code + "," + name() + ";";
            }
            case 1: {
                String id = code() + "," + name();
                streets.add(id);
                return "S" + id + "," + upTo(1005) + "," + upTo(1005) + "," + upTo(4) + ";";
            }
            case 2:
            case 3: {
                int low = upTo(60);
                return "R" + street() + "," + upTo(oneIn(20) ? 4 : 3) + "," + low + "," + (low + upTo(25)) + ";";
            }
            default:
                return "H" + street() + "," + upTo(60) + ";";
        }
    }

    private String street() {
        return streets.isEmpty() || oneIn(30) ? code() + "," + name() : streets.get(upTo(streets.size()));
    }

    /** A text with a byte changed, put in or left out now and then. */
    private byte[] spoilt(String text, int seldom) {
        byte[] bytes = Sheets.latin(text);
        if (bytes.length > 0 && oneIn(seldom)) bytes[upTo(bytes.length)] = (byte) (oneIn(2) ? ";,0A9PSRHKV="
            .charAt(upTo(12)) : upTo(256));
        if (bytes.length > 0 && oneIn(seldom)) bytes = java.util.Arrays.copyOf(bytes, upTo(bytes.length));
        return bytes;
    }

    private void writeBook() {
        StringBuilder text = new StringBuilder();
        int entries = oneIn(3) ? 1 + upTo(8) : 1;
        for (int k = 0; k < entries; k++) text.append(entry());
        lay(spoilt(text.toString(), 30));
        call("book");
    }

    /** A whole book to begin with, so that runs get somewhere. */
    private void writeFirstBook() {
        int places = 2 + upTo(4);
        StringBuilder text = new StringBuilder();
        for (int p = 0; p < places; p++) {
            int code = p * 17 + 1 + upTo(16);
            codes.add(code);
            text.append("P").append(code).append(",").append(name()).append(";");
            for (int s = 0; s < 1 + upTo(3); s++) {
                String id = code + "," + "ABCDE".charAt(s) + name();
                streets.add(id);
                text.append("S").append(id).append(",").append(upTo(300)).append(",").append(upTo(300)).append(",").append(upTo(4)).append(";");
                text.append("R").append(id).append(",0,1,").append(40 + upTo(10)).append(";");
                for (int h = 1 + upTo(4); h < 40; h += 1 + upTo(9)) text.append("H").append(id).append(",").append(h).append(";");
            }
        }
        lay(Sheets.latin(text.toString()));
        call("book");
    }

    private void writeTariff() {
        StringBuilder text = new StringBuilder();
        int[] limit = new int[4];
        int rows = oneIn(10) ? 35 + upTo(10) : 1 + upTo(8);
        for (int k = 0; k < rows; k++) {
            int kind = upTo(4);
            limit[kind] += oneIn(40) ? 0 : 1 + upTo(oneIn(4) ? 9000 : 500);
            if (oneIn(3) && rows < 30) text.append("V").append(1 << upTo(3)).append("=").append(upTo(60)).append(";");
            else text.append("K").append(kind).append(",").append(limit[kind]).append("=").append(oneIn(3) ? 0 : upTo(500)).append(";");
        }
        lay(spoilt(text.toString(), 20));
        call("tariff");
    }

    private void showSheet() {
        int scale = oneIn(4) ? 2 : 1;
        java.util.List<String> lines = new java.util.ArrayList<>();
        for (int k = upTo(3); k > 0; k--) lines.add(name() + " " + name());
        int point = upTo(house.count(3));
        int street = house.pointAt(point, 0);
        String[] parts = (street >= 0 && street < streets.size() && !oneIn(10) ? streets.get(street) : street()).split(",");
        String written = oneIn(3) ? misspelt(parts[1]) : parts[1];
        lines.add(written + " " + (oneIn(5) ? 1 + upTo(45) : Math.max(0, house.pointAt(point, 1))));
        lines.add(oneIn(8) ? name() : parts[0] + (oneIn(3) ? " " + name() : ""));
        int width = oneIn(8) ? 8 + upTo(121) : 60 + upTo(69);
        int most = 4096 / width;
        while (lines.size() > 1 && lines.size() * (5 * scale + 2) + 1 > most) lines.remove(0);
        byte[] sheet = Sheets.draw(width, scale, 1 + upTo(4), lines.toArray(new String[0]));
        sheet = oneIn(3) ? Sheets.noisy(sheet, upTo(30), random) : sheet;
        if (oneIn(10)) {
            sheet = new byte[width * (1 + upTo(4096 / width))];
            int bound = oneIn(2) ? 256 : 60;
            for (int k = 0; k < sheet.length; k++) sheet[k] = (byte) (oneIn(2) ? 255 : upTo(bound));
        }
        lay(sheet);
        call("sheet", oneIn(20) ? within(8, 128) : width);
        call("read");
        if (oneIn(3)) compareSheet();
    }

    private String misspelt(String word) {
        StringBuilder b = new StringBuilder(word);
        for (int k = 1 + upTo(3); k > 0; k--) {
            int at = upTo(b.length());
            switch (upTo(3)) {
                case 0: b.insert(at, (char) ('A' + upTo(26))); break;
                case 1: if (b.length() > 1) b.deleteCharAt(at); break;
                default: b.setCharAt(at, (char) ('A' + upTo(26)));
            }
        }
        return b.toString();
    }

    private void compareSheet() {
        for (int i = -1; i <= 10; i++) {
            for (int what = -1; what <= 3; what++) call("textLine", i, what);
            int n = Math.max(0, house.textLine(i, 0));
            for (int k = -1; k <= n; k++) for (int what = -1; what <= 8; what++) call("sign", i, k, what);
        }
    }

    private void makeItem() {
        int services = oneIn(2) ? 0 : within(0, 7);
        int cents = (services & 2) != 0 ? within(1, 2000) : oneIn(40) ? 5 : 0;
        int weight = oneIn(3) ? within(1, 30000) : 1 + upTo(900);
        int item = call("item", within(0, 3), weight, services, customer(), within(1, 5), cents);
        if (item < 0 || oneIn(5)) return;
        if (oneIn(3)) call("frank", item);
        if (oneIn(2)) call("take", item);
        if (!oneIn(4)) call("address", item, some(3));
        if (!oneIn(4)) call("post", item, some(0));
    }

    private void scanBars() {
        int item = some(5);
        byte[] row = new byte[15];
        for (int k = 0; k < 15; k++) row[k] = (byte) (oneIn(9) ? upTo(16) : Math.max(0, call("bar", item, k)));
        for (int errors = upTo(4); errors > 0; errors--) row[upTo(15)] = (byte) upTo(256);
        lay(oneIn(20) ? java.util.Arrays.copyOf(row, upTo(17)) : row);
        call("scan");
        call("mended");
    }

    private void sortRound(int round) {
        if (oneIn(3)) call("arrange", round);
        if (oneIn(6)) call("machine", within(2, 16), oneIn(2) ? 1 + upTo(200) : within(1, 2000), within(1, 500), oneIn(2) ? upTo(400) : within(0, 4000));
        call("sort", round);
        call("passes");
        for (int k = -1; k < 4; k++) {
            call("row", round, k);
            call("wrong", k);
        }
        if (!oneIn(4)) call("out", round);
    }

    /** Items for the stops of a round, through the machine and to the doors. */
    private void deliverRound() {
        int round = upTo(house.count(6));
        int stops = 0;
        while (house.stop(round, stops) >= 0) stops++;
        if (stops == 0) return;
        int most = oneIn(10) ? 60 : oneIn(3) ? 20 : 6;
        for (int k = upTo(most); k >= 0; k--) {
            int services = oneIn(2) ? 0 : upTo(8);
            int item = call("item", upTo(3), 1 + upTo(300), services, customer(), within(1, 5), (services & 2) != 0 ? 1 + upTo(50) : 0);
            if (item < 0) continue;
            if (oneIn(2)) call("frank", item);
            int point = house.stop(round, upTo(stops));
            call("address", item, point);
            call("post", item, house.pointAt(point, 4));
        }
        if (oneIn(2)) call("machine", within(2, oneIn(2) ? 3 : 16), 1 + upTo(100), within(1, 500), upTo(300));
        sortRound(round);
        for (int k = upTo(12); k > 0; k--) deliver();
    }

    private void deliver() {
        int item = itemIn(oneIn(3) ? 6 : 4);
        int due = Math.max(0, house.about(item, 16));
        int cents = oneIn(10) ? within(0, 1000) : due;
        int who = oneIn(6) ? within(1, 99) : house.about(item, 5);
        int proof = oneIn(10) ? within(0, 9999) : 1 + upTo(9);
        switch (upTo(8)) {
            case 0: call("miss", item); break;
            case 1: call("refuse", item); break;
            case 2: case 3: case 4: call("put", item, lockerAtPlaceOf(item)); break;
            case 5: call("pickUp", item, who, proof, cents); break;
            default: call(house.about(item, 0) == 6 ? "pickUp" : "hand", item, who, proof, cents);
        }
    }

    private int lockerAtPlaceOf(int item) {
        for (int k = 0; k < 6; k++) {
            int locker = upTo(house.count(9));
            if (house.lockerAt(locker, 0) == house.about(item, 8)) return locker;
        }
        return some(9);
    }

    private void tryBox() {
        int item = itemIn(6);
        int key = 1000 + (((item + 1) * 1103515245 + 12345) >>> 16) % 9000;
        int locker = house.about(item, 15);
        call("openBox", locker >= 0 && !oneIn(10) ? locker : some(9), oneIn(3) ? within(1000, 9999) : key);
    }

    private void fillBags() {
        int bag = some(8);
        if (oneIn(2)) {
            int item = itemIn(1);
            int from = house.about(item, 8);
            int goal = house.about(item, 12);
            if (goal >= 0 && from >= 0) bag = call("bag", from, house.pointAt(goal, 4));
            if (bag >= 0) call("into", bag, item);
        }
        for (int k = 0; k < 6; k++) call("into", bag, itemIn(1));
        if (oneIn(3)) call("closeBag", bag);
    }

    private void play() {
        switch (upTo(34)) {
            case 0: writeBook(); break;
            case 1: if (oneIn(3)) writeTariff(); break;
            case 2: if (oneIn(2)) showSheet(); break;
            case 3: case 4: case 5: makeItem(); break;
            case 6: for (int k = upTo(4); k >= 0; k--) call("forward", pointOfFew(), within(0, 5), pointOfFew(), within(day() + 1, day() + 8)); break;
            case 7: if (oneIn(2)) call("hold", pointOfFew(), within(0, 5), within(day() + 1, day() + 5)); break;
            case 8: call("clerk", itemDoubtful(), within(0, 9), oneIn(4) ? -1 : oneIn(2) ? some(3) : upTo(3)); break;
            case 9: scanBars(); break;
            case 10: call("round", some(0), within(-2000, 2000), within(-300, 300)); break;
            case 11: for (int k = 0; k < 5; k++) call("assign", some(3), some(6)); break;
            case 12: call("arrange", some(6)); break;
            case 13: sortRound(some(6)); break;
            case 14: deliverRound(); break;
            case 15: call("leg", some(0), some(0), within(0, 1439), oneIn(3) ? within(1, 3000) : 1 + upTo(200), within(1, oneIn(4) ? 20 : 2)); break;
            case 16: call("late", some(7), within(1, 600)); break;
            case 17: call("bag", some(0), some(0)); break;
            case 18: case 19: fillBags(); break;
            case 20: call("closeBag", some(8)); break;
            case 21: call("tick", 1440); for (int b = 0; b < house.count(8); b++) if (house.bagAt(b, 0) == 1) call("openBag", b); break;
            case 22: case 23: case 24: deliver(); break;
            case 25: tryBox(); break;
            case 26: if (oneIn(3)) call("lose", itemIn(upTo(7))); else call("claim", itemIn(8), within(1, 100000)); break;
            case 27: call("account", some(3)); break;
            case 28: call("deposit", customer(), oneIn(5) ? within(1, 1000000) : 1 + upTo(3000)); break;
            case 29: call("order", customer(), within(1, 99), within(1, oneIn(4) ? 100000 : 300)); break;
            case 30: payOut(); break;
            case 31: call("locker", some(0), within(1, 10)); break;
            case 32: tellDevices(); break;
            default: goOn();
        }
    }

    private int pointOfFew() {
        return oneIn(2) ? some(3) : upTo(Math.min(5, house.count(3)));
    }

    private int itemDoubtful() {
        for (int k = 0; k < 12; k++) {
            int item = upTo(house.count(5));
            if (house.about(item, 13) == 1) return item;
        }
        return some(5);
    }

    private void payOut() {
        int order = some(12);
        call("payOut", order, oneIn(4) ? within(1, 99) : house.orderAt(order, 2), oneIn(6) ? within(0, 9999) : 7);
    }

    private void tellDevices() {
        if (oneIn(3)) call("device", within(0, 7), oneIn(3) ? within(0, 1000000000) : Math.max(0, house.now() + upTo(200) - 100));
        for (int k = 0; k < 3; k++) call("scanned", within(0, 7), some(5), within(0, 9), oneIn(4) ? within(0, 3000) : Math.max(0, house.now() - upTo(3000)));
        call("wish", customer(), within(0, 8), !oneIn(4));
    }

    private void goOn() {
        int n = oneIn(2) ? within(1, 1440) : 1 + upTo(200);
        call("tick", n);
        if (oneIn(8)) for (int k = 0; k < 4; k++) call("tick", 1440);
        if (oneIn(60)) for (int k = 0; k < 27; k++) call("tick", 1440);
    }

    private void powerPlay() {
        switch (upTo(6)) {
            case 0: case 1: call("sync"); break;
            case 2: call("cut", oneIn(2) ? -1 : oneIn(10) ? within(-1, 2000) : upTo(12), within(0, 255)); break;
            case 3:
                if (oneIn(4)) {
                    call("poke", oneIn(10) ? within(1, 150) : 1 + upTo(Math.max(1, house.count(15) + 1)), within(0, 255), upTo(256));
                }
                call("verify");
                break;
            default: break;
        }
    }

    /** Changes a byte of a block and mends its sum, so that the block is right still and its records are others. */
    private void forge(int block) {
        int i = oneIn(4) ? upTo(4) : 4 + upTo(oneIn(2) ? 60 : 248);
        call("poke", block, i, 1 << upTo(8));
        int sum = 0;
        for (int k = 0; k < 252; k++) sum = Integer.rotateLeft(sum ^ house.octet(block, k), 3) * 0x85EBCA77;
        for (int k = 0; k < 4; k++) call("poke", block, 252 + k, house.octet(block, 252 + k) ^ sum >>> 24 - 8 * k);
    }

    private void comeUp() {
        if (oneIn(3)) for (String name : new String[] {"sync", "verify", "book", "read", "scan", "mended", "passes", "tariff", "now", "audit"}) call(name);
        if (oneIn(6)) call("poke", 1 + upTo(20), upTo(256), upTo(256));
        if (oneIn(3)) for (int k = upTo(4); k >= 0; k--) forge(1 + upTo(12));
        call("octet", within(1, 150), within(0, 255));
        call("start");
        if (oneIn(2)) compareAll();
    }

    private void compareAll() {
        for (int what = -1; what <= 18; what++) call("count", what);
        for (int p = -1; p <= house.count(3); p++) {
            for (int what = -1; what <= 6; what++) call("pointAt", p, what);
            for (int person = -1; person < 6; person++) {
                call("effective", p, person);
                call("lastPoint", p, person);
            }
        }
        for (int i = -1; i <= house.count(5); i++) {
            for (int what = -1; what <= 17; what++) call("about", i, what);
            for (int k = -1; k <= 8; k++) for (int what = -1; what <= 3; what++) call("trace", i, k, what);
            call("price", i);
        }
        for (int r = -1; r <= house.count(6); r++) for (int k = -1; k <= 20; k++) {
            call("stop", r, k);
            call("row", r, k);
        }
        for (int b = -1; b <= house.count(8); b++) for (int what = -1; what <= 6; what++) call("bagAt", b, what);
        for (int from = -1; from <= house.count(0); from++) for (int to = -1; to <= house.count(0); to++) for (int what = -1; what <= 2; what++) call("way", from, to, what);
        for (int l = -1; l <= house.count(9); l++) for (int what = -1; what <= 4; what++) call("lockerAt", l, what);
        for (int a = -1; a <= 4 + house.count(10); a++) call("balance", a);
        for (int e = -1; e <= house.count(11); e++) for (int what = -1; what <= 4; what++) call("entry", e, what);
        for (int o = -1; o <= house.count(12); o++) for (int what = -1; what <= 5; what++) call("orderAt", o, what);
        for (int n = -1; n <= Math.min(400, house.count(14)); n++) for (int what = -1; what <= 4; what++) call("notice", n, what);
        for (int code = 0; code < 120; code++) call("find", code);
        for (String name : new String[] {"read", "passes", "mended", "now", "audit", "verify"}) call(name);
    }

    private void compareDisk() {
        for (int block = 1; block <= 150; block++) for (int i = 0; i < 256; i++) call("octet", block, i);
    }

    private void run(int plays) {
        writeFirstBook();
        for (int k = 0; k < 3; k++) {
            call("account", some(3));
            call("deposit", 4 + k, 1 + upTo(9000));
        }
        writeTariff();
        for (int k = 0; k < 3; k++) call("round", some(0), upTo(300), upTo(300));
        for (int k = 0; k < 40; k++) call("assign", some(3), some(6));
        for (int k = 0; k < 5; k++) call("leg", some(0), some(0), within(0, 1439), 1 + upTo(900), 1 + upTo(3));
        for (int k = 0; k < 3; k++) call("locker", some(0), within(1, 10));
        call("sync");
        boolean quiet = oneIn(2);
        for (int k = 0; k < plays && wrong == 0; k++) {
            play();
            call("audit");
            if (oneIn(quiet ? 40 : 8)) powerPlay();
            if (house.now() == -105) comeUp();
        }
        if (house.now() == -105) call("start");
        compareAll();
        compareSheet();
        call("sync");
        if (house.now() != -105) {
            call("cut", 0, upTo(256));
            call("tick", 1);
            call("sync");
        }
        call("start");
        compareAll();
        compareSheet();
        compareDisk();
    }

    public static void main(String[] args) {
        int runs = args.length > 0 ? Integer.parseInt(args[0]) : 200;
        long first = args.length > 1 ? Long.parseLong(args[1]) : 1;
        int[] answers = new int[117];
        int wrongRuns = 0;
        for (long seed = first; seed < first + runs && wrongRuns < 3; seed++) {
            ModelTest test = new ModelTest(seed, answers);
            test.run(150 + (int) (seed % 5) * 60);
            if (test.wrong > 0) {
                wrongRuns++;
                System.out.println("seed " + seed + ": " + test.wrong + " answers are not as due");
            }
        }
        for (int a = 101; a <= 116; a++) if (answers[a] == 0 && a != 107 && a != 108 && a != 109) System.out.println("never seen: -" + a);
        if (args.length > 2) System.out.println(DONE);
        System.out.println(runs + " runs played, " + wrongRuns + " went wrong");
        if (wrongRuns > 0) System.exit(1);
    }
}
