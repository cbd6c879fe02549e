import java.io.ByteArrayOutputStream;
import java.util.ArrayList;
import java.util.Arrays;
import java.util.Comparator;
import java.util.HashMap;
import java.util.LinkedHashSet;
import java.util.List;
import java.util.Map;
import java.util.Set;
import java.util.TreeMap;
import java.util.function.BooleanSupplier;

/**
 * The document once more, in the slowest and plainest way: minute by minute, order by order, symbol by symbol.
 * It shares no code with PostHouse, so that a slip in one of them shows as a difference.
 */
public final class HouseModel {
    static final int NONE = -1, UNKNOWN = -101, OUTSIDE = -102, STATE = -103, ROOM = -104, DOWN = -105, LOST = -106;
    static final int HELD = -110, RING = -111, NOT_HIM = -112, NO_PROOF = -113, WRONG_SUM = -114, BARRED = -115, POOR = -116;

    /** A refusal on its way to the call that it answers. */
    static final class Refused extends RuntimeException {
        final int answer;

        Refused(int answer) {
            super(null, null, false, false);
            this.answer = answer;
        }
    }

    static void refuse(boolean when, int answer) {
        if (when) throw new Refused(answer);
    }

    private ByteArrayOutputStream tape = new ByteArrayOutputStream();
    private final int[][] disk = new int[151][256];
    private final boolean[] torn = new boolean[151];
    private int used = 0;
    private boolean down = false;
    private int cutAt = NONE, tear = 0;
    private List<byte[]> waiting = new ArrayList<>();
    private int mendedBy = NONE;
    private House house = new House();

    private static final int[] ARGUMENTS = new int[41];
    static {
        String table = "1:0 2:4 3:3 4:1 5:6 6:2 7:1 8:3 9:2 10:4 11:3 12:2 13:1 14:1 15:1 16:5 17:2 18:2 19:2 20:1 21:1 22:4 23:1 24:1 "
            + "25:2 26:4 27:2 28:1 29:1 30:2 31:0 32:1 33:3 34:3 35:2 36:2 37:2 38:4 39:3 40:1";
        for (String pair : table.split(" ")) {
            String[] two = pair.split(":");
            ARGUMENTS[Integer.parseInt(two[0])] = Integer.parseInt(two[1]);
        }
    }

    // ---- the tape, the log and the disk

    public int feed(int a, int b, int c, int d, int e) {
        if (tape.size() > 4096 - 20) throw new IllegalStateException();
        for (int n : new int[] {a, b, c, d, e}) {
            tape.write(n >>> 24);
            tape.write(n >>> 16);
            tape.write(n >>> 8);
            tape.write(n);
        }
        return tape.size();
    }

    public void end(int n) {
        if (n < 0 || n > tape.size()) throw new IllegalArgumentException();
        byte[] all = tape.toByteArray();
        tape = new ByteArrayOutputStream();
        tape.write(all, 0, n);
    }

    private byte[] useTape() {
        byte[] all = tape.toByteArray();
        tape = new ByteArrayOutputStream();
        return all;
    }

    private int act(int number, int... args) {
        if (down) return DOWN;
        byte[] read = number == 1 || number == 4 || number == 31 ? useTape() : null;
        ByteArrayOutputStream record = new ByteArrayOutputStream();
        record.write(number);
        for (int n : args) for (int shift = 24; shift >= 0; shift -= 8) record.write(n >>> shift);
        if (read != null) {
            record.write(read.length / 256);
            record.write(read.length % 256);
            record.write(read, 0, read.length);
        }
        BooleanSupplier room = () -> (bytesWaiting() + record.size() + 247) / 248 <= 150 - used;
        try {
            int answer = house.act(number, args, read, room);
            waiting.add(record.toByteArray());
            return answer;
        } catch (Refused refusal) {
            return refusal.answer;
        }
    }

    private int bytesWaiting() {
        return waiting.stream().mapToInt(r -> r.length).sum();
    }

    private static int sum(int[] block) {
        int s = 0;
        for (int i = 0; i < 252; i++) s = Integer.rotateLeft(s ^ block[i], 3) * 0x85EBCA77;
        return s;
    }

    public int sync() {
        if (down) return DOWN;
        ByteArrayOutputStream all = new ByteArrayOutputStream();
        for (byte[] r : waiting) all.write(r, 0, r.length);
        byte[] bytes = all.toByteArray();
        int blocks = 0;
        for (int at = 0; at < bytes.length; at += 248) {
            int number = used + 1 + blocks++;
            int n = Math.min(248, bytes.length - at);
            int[] block = new int[256];
            block[0] = number / 256;
            block[1] = number % 256;
            block[2] = at + 248 >= bytes.length ? 1 : 0;
            block[3] = n;
            for (int i = 0; i < n; i++) block[4 + i] = bytes[at + i] & 255;
            int s = sum(block);
            for (int i = 0; i < 4; i++) block[252 + i] = s >>> (24 - 8 * i) & 255;
            if (cutAt == 0) {
                System.arraycopy(block, 0, disk[number], 0, tear);
                torn[number] = true;
                down = true;
                return LOST;
            }
            if (cutAt > 0) cutAt--;
            disk[number] = block;
            torn[number] = false;
        }
        used += blocks;
        waiting = new ArrayList<>();
        return blocks;
    }

    public int cut(int n, int tearAt) {
        if (down) return DOWN;
        if (n < -1 || n > 2000 || tearAt < 0 || tearAt > 255) return OUTSIDE;
        cutAt = n;
        tear = tearAt;
        return 1;
    }

    private boolean right(int b) {
        int[] x = disk[b];
        int s = x[252] << 24 | x[253] << 16 | x[254] << 8 | x[255];
        return !torn[b] && x[0] * 256 + x[1] == b && (x[2] == 1 && x[3] >= 1 && x[3] <= 248 || x[2] == 0 && x[3] == 248) && s == sum(x);
    }

    public int start() {
        if (!down) return STATE;
        used = 0;
        for (int b = 1; b <= 150 && right(b); b++) if (disk[b][2] == 1) used = b;
        house = new House();
        int done = 0;
        ByteArrayOutputStream sync = new ByteArrayOutputStream();
        for (int b = 1; b <= used; b++) {
            for (int i = 0; i < disk[b][3]; i++) sync.write(disk[b][4 + i]);
            if (disk[b][2] == 1) {
                done += again(sync.toByteArray());
                sync = new ByteArrayOutputStream();
            }
        }
        down = false;
        waiting = new ArrayList<>();
        cutAt = NONE;
        return done;
    }

    private int again(byte[] sync) {
        int done = 0;
        int at = 0;
        while (at < sync.length) {
            int number = sync[at++] & 255;
            if (number < 1 || number > 40 || at + 4 * ARGUMENTS[number] > sync.length) return done;
            int[] args = new int[ARGUMENTS[number]];
            for (int i = 0; i < args.length; i++) {
                for (int k = 0; k < 4; k++) args[i] = args[i] * 256 + (sync[at++] & 255);
            }
            if (number == 39 && args[2] != 0 && args[2] != 1) return done;
            byte[] read = null;
            if (number == 1 || number == 4 || number == 31) {
                if (at + 2 > sync.length) return done;
                int size = (sync[at] & 255) * 256 + (sync[at + 1] & 255);
                at += 2;
                if (size > 4096 || at + size > sync.length) return done;
                read = Arrays.copyOfRange(sync, at, at + size);
                at += size;
            }
            try {
                house.act(number, args, read, () -> true);
                done++;
            } catch (Refused refusal) {
                continue;
            }
        }
        return done;
    }

    public int verify() {
        if (down) return DOWN;
        for (int b = 1; b <= used; b++) if (!right(b)) return b;
        return NONE;
    }

    public int octet(int block, int i) {
        if (block < 1 || block > 150 || i < 0 || i > 255) throw new IndexOutOfBoundsException();
        return disk[block][i];
    }

    public int poke(int block, int i, int mask) {
        if (block < 1 || block > 150 || i < 0 || i > 255) throw new IndexOutOfBoundsException();
        disk[block][i] ^= mask & 255;
        return disk[block][i];
    }

    // ---- acts

    public int book() { return act(1); }
    public int forward(int point, int person, int to, int until) { return act(2, point, person, to, until); }
    public int hold(int point, int person, int until) { return act(3, point, person, until); }
    public int sheet(int width) { return act(4, width); }
    public int item(int kind, int weight, int services, int account, int person, int cents) { return act(5, kind, weight, services, account, person, cents); }
    public int address(int item, int point) { return act(6, item, point); }
    public int take(int item) { return act(7, item); }
    public int clerk(int item, int who, int point) { return act(8, item, who, point); }
    public int post(int item, int place) { return act(9, item, place); }
    public int machine(int bins, int gap, int step, int turn) { return act(10, bins, gap, step, turn); }
    public int round(int place, int x, int y) { return act(11, place, x, y); }
    public int assign(int point, int round) { return act(12, point, round); }
    public int arrange(int round) { return act(13, round); }
    public int sort(int round) { return act(14, round); }
    public int out(int round) { return act(15, round); }
    public int leg(int from, int to, int leaves, int takes, int space) { return act(16, from, to, leaves, takes, space); }
    public int late(int leg, int by) { return act(17, leg, by); }
    public int bag(int place, int to) { return act(18, place, to); }
    public int into(int bag, int item) { return act(19, bag, item); }
    public int closeBag(int bag) { return act(20, bag); }
    public int openBag(int bag) { return act(21, bag); }
    public int hand(int item, int who, int proof, int cents) { return act(22, item, who, proof, cents); }
    public int miss(int item) { return act(23, item); }
    public int refuse(int item) { return act(24, item); }
    public int put(int item, int locker) { return act(25, item, locker); }
    public int pickUp(int item, int who, int proof, int cents) { return act(26, item, who, proof, cents); }
    public int openBox(int locker, int key) { return act(27, locker, key); }
    public int lose(int item) { return act(28, item); }
    public int account(int point) { return act(29, point); }
    public int deposit(int account, int cents) { return act(30, account, cents); }
    public int tariff() { return act(31); }
    public int frank(int item) { return act(32, item); }
    public int order(int account, int person, int cents) { return act(33, account, person, cents); }
    public int payOut(int order, int person, int proof) { return act(34, order, person, proof); }
    public int claim(int item, int cents) { return act(35, item, cents); }
    public int locker(int place, int boxes) { return act(36, place, boxes); }
    public int device(int d, int told) { return act(37, d, told); }
    public int scanned(int d, int item, int kind, int t) { return act(38, d, item, kind, t); }
    public int wish(int account, int sort, boolean on) { return act(39, account, sort, on ? 1 : 0); }
    public int tick(int n) { return act(40, n); }

    // ---- questions

    private interface Question {
        long ask();
    }

    private long ask(Question question) {
        if (down) return DOWN;
        try {
            return question.ask();
        } catch (Refused refusal) {
            return refusal.answer;
        }
    }

    public int count(int what) {
        return (int) ask(() -> {
            int[] all = {house.places.size(), house.streets.size(), house.ranges.size(), house.points.size(), house.orders.size(),
                house.items.size(), house.rounds.size(), house.lines.size(), house.bags.size(), house.lockers.size(), house.customers(),
                house.ledger.size(), house.moneyOrders.size(), house.events, house.notices, used, waiting.size(), bytesWaiting()};
            refuse(what < 0 || what >= all.length, OUTSIDE);
            return all[what];
        });
    }

    public int effective(int point, int person) {
        return (int) ask(() -> {
            refuse(!house.isPoint(point), UNKNOWN);
            refuse(person < 0 || person > 99, OUTSIDE);
            return house.effective(point, person)[0];
        });
    }

    public int lastPoint(int point, int person) {
        return (int) ask(() -> {
            refuse(!house.isPoint(point), UNKNOWN);
            refuse(person < 0 || person > 99, OUTSIDE);
            return house.effective(point, person)[1];
        });
    }

    public int find(int code) {
        return (int) ask(() -> house.find(code));
    }

    public int pointAt(int point, int what) {
        return (int) ask(() -> {
            refuse(!house.isPoint(point), UNKNOWN);
            refuse(what < 0 || what > 5, OUTSIDE);
            House.Point p = house.points.get(point);
            int round = NONE;
            for (int r = 0; r < house.rounds.size(); r++) if (house.rounds.get(r).points.contains(point)) round = r;
            return new int[] {p.street, p.house, house.xy(point)[0], house.xy(point)[1], house.placeOf(point), round}[what];
        });
    }

    public int read() {
        return (int) ask(() -> house.readPoint);
    }

    public int textLine(int i, int what) {
        return (int) ask(() -> {
            refuse(what < 0 || what > 2, OUTSIDE);
            if (i < 0 || i >= house.text.size()) return NONE;
            List<House.Box> line = house.text.get(i);
            if (what == 0) return line.size();
            return line.stream().mapToInt(b -> what == 1 ? b.top : b.left).min().getAsInt();
        });
    }

    public int sign(int i, int k, int what) {
        return (int) ask(() -> {
            refuse(what < 0 || what > 7, OUTSIDE);
            if (i < 0 || i >= house.text.size() || k < 0 || k >= house.text.get(i).size()) return NONE;
            House.Box b = house.text.get(i).get(k);
            return new int[] {b.left, b.top, b.width, b.height, b.cells, b.digit, b.letter, b.begins ? 1 : 0}[what];
        });
    }

    private House.Item itemOf(int item) {
        refuse(item < 0 || item >= house.items.size(), UNKNOWN);
        return house.items.get(item);
    }

    public int about(int item, int what) {
        return (int) ask(() -> {
            House.Item x = itemOf(item);
            refuse(what < 0 || what > 16, OUTSIDE);
            int goal = x.back || x.address != NONE ? house.goal(x)[0] : NONE;
            return new int[] {x.state, x.kind, x.weight, x.services, x.account, x.person, x.cents, x.address, x.place, x.bag, x.back ? 1 : 0,
                x.franked, goal, x.doubtful ? 1 : x.unreadable ? 2 : 0, x.till, x.locker, house.due(x)[0] + house.due(x)[1]}[what];
        });
    }

    public int bar(int item, int k) {
        return (int) ask(() -> {
            House.Item x = itemOf(item);
            refuse(k < 0 || k > 14, OUTSIDE);
            return house.bars(x)[k];
        });
    }

    public int scan() {
        if (down) return DOWN;
        byte[] read = useTape();
        if (read.length != 15) return OUTSIDE;
        int[] row = new int[15];
        for (int i = 0; i < 15; i++) row[i] = (read[i] & 255) % 16;
        mendedBy = Sixteen.mend(row);
        int number = row[0] * 256 + row[1] * 16 + row[2];
        return mendedBy != NONE && number < house.items.size() ? number : NONE;
    }

    public int mended() {
        return down ? DOWN : mendedBy;
    }

    private House.Round roundOf(int round) {
        refuse(round < 0 || round >= house.rounds.size(), UNKNOWN);
        return house.rounds.get(round);
    }

    public int stop(int round, int i) {
        return (int) ask(() -> House.at(roundOf(round).points, i));
    }

    public int passes() {
        return (int) ask(() -> house.passes);
    }

    public int wrong(int i) {
        return (int) ask(() -> House.at(house.wrong, i));
    }

    public int row(int round, int i) {
        return (int) ask(() -> House.at(roundOf(round).row, i));
    }

    public int bagAt(int bag, int what) {
        return (int) ask(() -> {
            refuse(bag < 0 || bag >= house.bags.size(), UNKNOWN);
            refuse(what < 0 || what > 5, OUTSIDE);
            House.Bag b = house.bags.get(bag);
            return new int[] {b.state, b.place, b.end, b.items.size(), b.line, b.arrives}[what];
        });
    }

    public int way(int from, int to, int what) {
        return (int) ask(() -> {
            refuse(!house.isPlace(from) || !house.isPlace(to), UNKNOWN);
            refuse(what < 0 || what > 1, OUTSIDE);
            int[] found = house.way(from).get(to);
            return found == null ? NONE : found[what];
        });
    }

    public long balance(int account) {
        return ask(() -> {
            refuse(account < 0 || account >= house.balances.size(), UNKNOWN);
            return house.balances.get(account);
        });
    }

    public int entry(int i, int what) {
        return (int) ask(() -> {
            refuse(what < 0 || what > 3, OUTSIDE);
            return i < 0 || i >= house.ledger.size() ? NONE : house.ledger.get(i)[what];
        });
    }

    public int price(int item) {
        return (int) ask(() -> house.price(itemOf(item)));
    }

    public int orderAt(int order, int what) {
        return (int) ask(() -> {
            refuse(order < 0 || order >= house.moneyOrders.size(), UNKNOWN);
            refuse(what < 0 || what > 4, OUTSIDE);
            return house.moneyOrders.get(order)[what];
        });
    }

    public int lockerAt(int locker, int what) {
        return (int) ask(() -> {
            refuse(locker < 0 || locker >= house.lockers.size(), UNKNOWN);
            refuse(what < 0 || what > 3, OUTSIDE);
            House.Locker l = house.lockers.get(locker);
            int free = (int) Arrays.stream(l.boxes).filter(b -> b == NONE).count();
            return new int[] {l.place, l.boxes.length, free, l.wrongKeys}[what];
        });
    }

    public int trace(int item, int i, int what) {
        return (int) ask(() -> {
            House.Item x = itemOf(item);
            refuse(what < 0 || what > 2, OUTSIDE);
            List<int[]> trace = new ArrayList<>(x.trace);
            trace.sort(Comparator.comparingInt(e -> e[2]));
            return i < 0 || i >= trace.size() ? NONE : trace.get(i)[what];
        });
    }

    public int notice(int i, int what) {
        return (int) ask(() -> {
            refuse(what < 0 || what > 3, OUTSIDE);
            return i < 0 || i >= house.keptNotices.size() ? NONE : house.keptNotices.get(i)[what];
        });
    }

    public int now() {
        return (int) ask(() -> house.clock);
    }

    public int audit() {
        return down ? DOWN : 0;
    }

    // ---- the field of sixteen

    static final class Sixteen {
        static int times(int a, int b) {
            int product = 0;
            for (int bit = 0; bit < 4; bit++) if ((b >> bit & 1) != 0) product ^= a << bit;
            for (int bit = 6; bit >= 4; bit--) if ((product >> bit & 1) != 0) product ^= 0b10011 << (bit - 4);
            return product;
        }

        static int sums(int[] row) {
            int all = 0;
            for (int a : new int[] {2, 4, 8, 3}) {
                int sum = 0;
                for (int s : row) sum = times(sum, a) ^ s;
                all = all * 16 + sum;
            }
            return all;
        }

        private static int[][] alone() {
            int[][] sums = new int[15][16];
            for (int i = 0; i < 15; i++) {
                for (int v = 0; v < 16; v++) {
                    int[] row = new int[15];
                    row[i] = v;
                    sums[i][v] = sums(row);
                }
            }
            return sums;
        }

        private static final int[][] ALONE = alone();

        static void close(int[] row) {
            int sums = sums(row);
            for (int last = 0; last < 65536; last++) {
                int v11 = last >> 12, v12 = last >> 8 & 15, v13 = last >> 4 & 15, v14 = last & 15;
                if ((ALONE[11][v11] ^ ALONE[12][v12] ^ ALONE[13][v13] ^ ALONE[14][v14]) != sums) continue;
                row[11] = v11;
                row[12] = v12;
                row[13] = v13;
                row[14] = v14;
                return;
            }
        }

        static int mend(int[] row) {
            int sums = sums(row);
            if (sums == 0) return 0;
            for (int i = 0; i < 15; i++) {
                for (int v = 1; v < 16; v++) {
                    if (ALONE[i][v] == sums) {
                        row[i] ^= v;
                        return 1;
                    }
                }
            }
            for (int i = 0; i < 15; i++) {
                for (int j = i + 1; j < 15; j++) {
                    for (int v = 1; v < 16; v++) {
                        for (int w = 1; w < 16; w++) {
                            if ((ALONE[i][v] ^ ALONE[j][w]) == sums) {
                                row[i] ^= v;
                                row[j] ^= w;
                                return 2;
                            }
                        }
                    }
                }
            }
            return NONE;
        }
    }

    // ---- the house

    static final class House {
        record Place(int code, String name) { }
        record Street(int place, String name, int x, int y, int way) { }
        record Range(int street, int side, int low, int high) { }
        record Point(int street, int house) { }
        record Order(int point, int person, int to, int until) { }
        record Line(int from, int to, int leaves, int takes, int space, int[] next) { }

        static final class Box {
            int left, top, width, height, cells, digit, letter, part;
            boolean begins;
        }

        static final class Item {
            int number, state, kind, weight, services, account, person, cents;
            int address = NONE, place = NONE, bag = NONE, franked = NONE, till = NONE, locker = NONE;
            long cameIn;
            boolean back, doubtful, unreadable, claimed;
            Map<Integer, Integer> clerks = new TreeMap<>();
            List<int[]> trace = new ArrayList<>();
        }

        static final class Round {
            int place, x, y;
            List<Integer> points = new ArrayList<>(), row = new ArrayList<>();
        }

        static final class Bag {
            int state = 0, place, end, line = NONE, arrives = NONE;
            List<Integer> items = new ArrayList<>();
        }

        static final class Locker {
            int place, wrongKeys;
            int[] boxes;
        }

        int clock = 0;
        List<Place> places = new ArrayList<>();
        List<Street> streets = new ArrayList<>();
        List<Range> ranges = new ArrayList<>();
        List<Point> points = new ArrayList<>();
        List<Order> orders = new ArrayList<>();
        List<Item> items = new ArrayList<>();
        List<Round> rounds = new ArrayList<>();
        List<Line> lines = new ArrayList<>();
        List<Bag> bags = new ArrayList<>();
        List<Locker> lockers = new ArrayList<>();
        List<Long> balances = new ArrayList<>(List.of(0L, 0L, 0L, 0L));
        List<Integer> homes = new ArrayList<>(List.of(NONE, NONE, NONE, NONE));
        List<int[]> ledger = new ArrayList<>();
        List<int[]> moneyOrders = new ArrayList<>();
        List<int[]> tariff = new ArrayList<>();
        Set<List<Integer>> wishes = new LinkedHashSet<>();
        int events = 0, notices = 0;
        List<int[]> keptNotices = new ArrayList<>();
        int[] offsets = new int[8];
        int bins = 4, gap = 100, step = 50, turn = 80;
        int passes = 0;
        List<Integer> wrong = new ArrayList<>();
        long arrivals = 0;
        boolean hadSheet = false;
        int readPoint = NONE;
        List<List<Box>> text = new ArrayList<>();

        static int at(List<Integer> list, int i) {
            return i < 0 || i >= list.size() ? NONE : list.get(i);
        }

        boolean isPoint(int p) { return p >= 0 && p < points.size(); }
        boolean isPlace(int p) { return p >= 0 && p < places.size(); }
        boolean isItem(int i) { return i >= 0 && i < items.size(); }
        boolean isCustomer(int a) { return a >= 4 && a < balances.size(); }
        int customers() { return balances.size() - 4; }
        int today() { return clock / 1440; }

        static void bounds(int n, int least, int most) {
            refuse(n < least || n > most, OUTSIDE);
        }

        int act(int number, int[] a, byte[] read, BooleanSupplier room) {
            return switch (number) {
                case 1 -> book(new String(read, java.nio.charset.StandardCharsets.ISO_8859_1), room);
                case 2 -> order(a[0], a[1], a[2], a[3], false, room);
                case 3 -> order(a[0], a[1], NONE, a[2], true, room);
                case 4 -> sheet(a[0], read, room);
                case 5 -> item(a, room);
                case 6, 7, 8, 9 -> address(number, a, room);
                case 10 -> machine(a, room);
                case 11, 12, 13 -> rounds(number, a, room);
                case 14 -> sort(a[0], room);
                case 15 -> out(a[0], room);
                case 16, 17 -> lines(number, a, room);
                case 18, 19, 20, 21 -> bags(number, a, room);
                case 22, 26 -> hand(number, a, room);
                case 23, 24, 28 -> part(number, a[0], room);
                case 25, 27, 36 -> lockers(number, a, room);
                case 31 -> tariff(new String(read, java.nio.charset.StandardCharsets.ISO_8859_1), room);
                case 29, 30, 32, 33, 34, 35 -> money(number, a, room);
                case 37, 38, 39 -> tell(number, a, room);
                case 40 -> tick(a[0], room);
                default -> throw new IllegalStateException();
            };
        }

        static void need(BooleanSupplier room) {
            refuse(!room.getAsBoolean(), ROOM);
        }

        // -- texts

        /** An entry by a shape such as "P#,@;": its numbers and name, or the place of the byte that cannot stand. */
        static final class Entry {
            char letter;
            List<Integer> numbers = new ArrayList<>();
            String name = "";
            int at;
            boolean whole;
        }

        static Entry entry(String text, int from, String... shapes) {
            Entry e = new Entry();
            e.at = from;
            String shape = null;
            for (String s : shapes) if (from < text.length() && s.charAt(0) == text.charAt(from)) shape = s;
            if (shape == null) return e;
            e.letter = shape.charAt(0);
            e.at++;
            for (char c : shape.substring(1).toCharArray()) {
                String run = "";
                boolean number = c == '#', name = c == '@';
                while (e.at < text.length() && (number && run.length() < 6 && text.charAt(e.at) >= '0' && text.charAt(e.at) <= '9'
                    || name && run.length() < 10 && text.charAt(e.at) >= 'A' && text.charAt(e.at) <= 'Z'
                    || !number && !name && run.isEmpty() && text.charAt(e.at) == c)) run += text.charAt(e.at++);
                if (run.isEmpty()) return e;
                if (number) e.numbers.add(Integer.parseInt(run));
                if (name) e.name = run;
            }
            e.whole = true;
            return e;
        }

        int book(String t, BooleanSupplier room) {
            List<Place> hadPlaces = new ArrayList<>(places);
            List<Street> hadStreets = new ArrayList<>(streets);
            List<Range> hadRanges = new ArrayList<>(ranges);
            List<Point> hadPoints = new ArrayList<>(points);
            try {
                int entries = 0;
                int at = 0;
                do {
                    Entry e = entry(t, at, "P#,@;", "S#,@,#,#,#;", "R#,@,#,#,#;", "H#,@,#;");
                    refuse(!e.whole, -1000 - e.at);
                    refuse(!adds(e), -1000 - at);
                    at = e.at;
                    entries++;
                } while (at < t.length());
                need(room);
                return entries;
            } catch (Refused refusal) {
                places = hadPlaces;
                streets = hadStreets;
                ranges = hadRanges;
                points = hadPoints;
                throw refusal;
            }
        }

        boolean adds(Entry e) {
            List<Integer> n = e.numbers;
            if (e.letter == 'P') {
                if (n.get(0) < 1 || n.get(0) > 99999 || find(n.get(0)) != NONE || places.size() == 12) return false;
                return places.add(new Place(n.get(0), e.name));
            }
            int place = find(n.get(0));
            if (place == NONE) return false;
            int s = NONE;
            for (int i = 0; i < streets.size(); i++) if (streets.get(i).place == place && streets.get(i).name.equals(e.name)) s = i;
            if (e.letter == 'S') {
                if (s != NONE || n.get(1) > 999 || n.get(2) > 999 || n.get(3) > 3 || streets.size() == 30) return false;
                return streets.add(new Street(place, e.name, n.get(1), n.get(2), n.get(3)));
            }
            if (s == NONE) return false;
            if (e.letter == 'R') {
                if (n.get(1) > 2 || n.get(2) < 1 || n.get(2) > 999 || n.get(3) < n.get(2) || n.get(3) > 999 || ranges.size() == 60) return false;
                Range r = new Range(s, n.get(1), n.get(2), n.get(3));
                for (int h = 1; h < 1000; h++) if (inRange(r, h) && houseStands(s, h)) return false;
                return ranges.add(r);
            }
            if (!houseStands(s, n.get(1)) || points.contains(new Point(s, n.get(1))) || points.size() == 120) return false;
            return points.add(new Point(s, n.get(1)));
        }

        static boolean inRange(Range r, int h) {
            return h >= r.low && h <= r.high && (r.side == 0 || r.side == 1 && h % 2 == 1 || r.side == 2 && h % 2 == 0);
        }

        boolean houseStands(int street, int h) {
            return ranges.stream().anyMatch(r -> r.street == street && inRange(r, h));
        }

        int find(int code) {
            for (int i = 0; i < places.size(); i++) if (places.get(i).code == code) return i;
            return NONE;
        }

        int[] xy(int point) {
            Street s = streets.get(points.get(point).street);
            int h = points.get(point).house;
            return switch (s.way) {
                case 0 -> new int[] {s.x + h, s.y};
                case 1 -> new int[] {s.x, s.y + h};
                case 2 -> new int[] {s.x - h, s.y};
                default -> new int[] {s.x, s.y - h};
            };
        }

        int placeOf(int point) {
            return streets.get(points.get(point).street).place;
        }

        int order(int point, int person, int to, int until, boolean hold, BooleanSupplier room) {
            refuse(!isPoint(point) || !hold && !isPoint(to), UNKNOWN);
            bounds(person, 0, 99);
            bounds(until, today() + 1, 100000);
            refuse(!hold && point == to, OUTSIDE);
            refuse(orders.size() == 60, ROOM);
            need(room);
            orders.add(new Order(point, person, to, until));
            return orders.size() - 1;
        }

        int[] effective(int point, int person) {
            List<Integer> asked = new ArrayList<>();
            int now = point;
            while (true) {
                asked.add(now);
                Order last = null;
                for (Order o : orders) {
                    if (o.point == now && (o.person == 0 || o.person == person) && today() < o.until) last = o;
                }
                if (last == null) return new int[] {now, now};
                if (last.to == NONE) return new int[] {HELD, now};
                if (asked.contains(last.to)) return new int[] {RING, now};
                now = last.to;
            }
        }

        // -- sheets

        static final String FONT = "75557 26227 71747 71717 55711 74717 74757 71122 75757 75717 25755 65656 34443 65556 74647 74644 34553 "
            + "55755 72227 11152 55655 44447 57755 75555 25552 65644 25563 65655 34216 72222 55557 55552 55775 55255 55222 71247";

        int sheet(int w, byte[] grey, BooleanSupplier room) {
            bounds(w, 8, 128);
            refuse(grey.length == 0 || grey.length % w != 0, OUTSIDE);
            need(room);
            hadSheet = true;
            int h = grey.length / w;
            int least = 255, most = 0;
            for (byte b : grey) {
                least = Math.min(least, b & 255);
                most = Math.max(most, b & 255);
            }
            boolean[][] dark = new boolean[h][w];
            for (int y = 0; y < h; y++) for (int x = 0; x < w; x++) dark[y][x] = most - least >= 32 && 2 * (grey[y * w + x] & 255) < least + most;
            List<Box> boxes = boxes(dark, w, h);
            text = lines(boxes);
            for (List<Box> line : text) signs(line, dark);
            readPoint = NONE;
            return reading();
        }

        static List<Box> boxes(boolean[][] dark, int w, int h) {
            int[][] label = new int[h][w];
            for (int y = 0; y < h; y++) for (int x = 0; x < w; x++) label[y][x] = dark[y][x] ? y * w + x : -1;
            boolean changed = true;
            while (changed) {
                changed = false;
                for (int y = 0; y < h; y++) for (int x = 0; x < w; x++) {
                    if (!dark[y][x]) continue;
                    for (int dy = -1; dy <= 1; dy++) for (int dx = -1; dx <= 1; dx++) {
                        int ny = y + dy, nx = x + dx;
                        if (ny < 0 || nx < 0 || ny >= h || nx >= w || !dark[ny][nx] || label[ny][nx] >= label[y][x]) continue;
                        label[y][x] = label[ny][nx];
                        changed = true;
                    }
                }
            }
            List<Box> boxes = new ArrayList<>();
            TreeMap<Integer, List<int[]>> parts = new TreeMap<>();
            for (int y = 0; y < h; y++) for (int x = 0; x < w; x++) {
                if (dark[y][x]) parts.computeIfAbsent(label[y][x], k -> new ArrayList<>()).add(new int[] {x, y});
            }
            for (List<int[]> part : parts.values()) {
                if (part.size() < 4 || boxes.size() == 200) continue;
                Box b = new Box();
                b.left = part.stream().mapToInt(p -> p[0]).min().getAsInt();
                b.top = part.stream().mapToInt(p -> p[1]).min().getAsInt();
                b.width = part.stream().mapToInt(p -> p[0]).max().getAsInt() + 1 - b.left;
                b.height = part.stream().mapToInt(p -> p[1]).max().getAsInt() + 1 - b.top;
                b.part = boxes.size();
                boxes.add(b);
            }
            return boxes;
        }

        static List<List<Box>> lines(List<Box> boxes) {
            List<List<Box>> lines = new ArrayList<>();
            for (Box b : boxes) {
                List<Box> joined = new ArrayList<>(List.of(b));
                for (List<Box> line : new ArrayList<>(lines)) {
                    if (line.stream().anyMatch(o -> near(o, b))) {
                        joined.addAll(line);
                        lines.remove(line);
                    }
                }
                lines.add(joined);
            }
            lines.sort(Comparator.<List<Box>>comparingInt(l -> l.stream().mapToInt(b -> b.top).min().getAsInt())
                .thenComparingInt(l -> l.stream().mapToInt(b -> b.left).min().getAsInt()));
            for (List<Box> line : lines) {
                line.sort(Comparator.<Box>comparingInt(b -> b.left).thenComparingInt(b -> b.top).thenComparingInt(b -> b.part));
            }
            return new ArrayList<>(lines.subList(0, Math.min(10, lines.size())));
        }

        static boolean near(Box a, Box b) {
            int common = 0;
            for (int y = a.top; y < a.top + a.height; y++) if (y >= b.top && y < b.top + b.height) common++;
            return 2 * common >= Math.min(a.height, b.height);
        }

        static void signs(List<Box> line, boolean[][] dark) {
            for (int k = 0; k < line.size(); k++) {
                Box b = line.get(k);
                for (int cell = 0; cell < 15; cell++) {
                    int r = cell / 3, c = cell % 3, all = 0, ink = 0;
                    for (int y = b.top + r * b.height / 5; y < b.top + (r + 1) * b.height / 5; y++) {
                        for (int x = b.left + c * b.width / 3; x < b.left + (c + 1) * b.width / 3; x++) {
                            all++;
                            if (dark[y][x]) ink++;
                        }
                    }
                    if (all > 0 && ink * 2 >= all) b.cells += 1 << (14 - cell);
                }
                b.digit = like(b.cells, 0, 10);
                b.letter = like(b.cells, 10, 36);
                Box before = k == 0 ? null : line.get(k - 1);
                b.begins = before == null || 5 * (b.left - (before.left + before.width)) >= 2 * before.height;
            }
        }

        static int like(int cells, int from, int to) {
            String[] font = FONT.split(" ");
            for (int far = 0; far <= 3; far++) {
                List<Integer> found = new ArrayList<>();
                for (int s = from; s < to; s++) {
                    int differ = 0;
                    for (int cell = 0; cell < 15; cell++) {
                        int digit = font[s].charAt(cell / 3) - '0';
                        if ((digit >> (2 - cell % 3) & 1) != (cells >> (14 - cell) & 1)) differ++;
                    }
                    if (differ == far) found.add(s - from);
                }
                if (found.size() == 1) return found.get(0);
                if (found.size() > 1) return NONE;
            }
            return NONE;
        }

        static List<List<Box>> words(List<Box> line) {
            List<List<Box>> words = new ArrayList<>();
            for (Box b : line) {
                if (b.begins) words.add(new ArrayList<>());
                words.get(words.size() - 1).add(b);
            }
            return words;
        }

        static int number(List<Box> word, int most) {
            if (word.size() > most || word.stream().anyMatch(b -> b.digit == NONE)) return NONE;
            StringBuilder digits = new StringBuilder();
            for (Box b : word) digits.append(b.digit);
            return Integer.parseInt(digits.toString());
        }

        int reading() {
            if (text.size() < 2) return 1;
            int code = number(words(text.get(text.size() - 1)).get(0), 5);
            if (code == NONE) return 2;
            int place = find(code);
            if (place == NONE) return 3;
            List<List<Box>> words = words(text.get(text.size() - 2));
            int house = number(words.get(words.size() - 1), 3);
            if (words.size() < 2 || house == NONE) return 4;
            List<Integer> letters = new ArrayList<>();
            for (List<Box> word : words.subList(0, words.size() - 1)) for (Box b : word) letters.add(b.letter);
            Map<Integer, List<Integer>> byChanges = new TreeMap<>();
            for (int s = 0; s < streets.size(); s++) {
                if (streets.get(s).place == place) {
                    byChanges.computeIfAbsent(changes(letters, streets.get(s).name, new HashMap<>()), k -> new ArrayList<>()).add(s);
                }
            }
            if (byChanges.isEmpty()) return 5;
            int least = byChanges.keySet().iterator().next();
            if (least > 2 || byChanges.get(least).size() != 1) return 5;
            int point = points.indexOf(new Point(byChanges.get(least).get(0), house));
            if (point < 0) return 6;
            readPoint = point;
            return 0;
        }

        static int changes(List<Integer> signs, String name, Map<Integer, Integer> known) {
            if (signs.isEmpty()) return name.length();
            if (name.isEmpty()) return signs.size();
            int key = signs.size() * 100 + name.length();
            Integer had = known.get(key);
            if (had != null) return had;
            List<Integer> rest = signs.subList(1, signs.size());
            int same = signs.get(0) == name.charAt(0) - 'A' ? 0 : 1;
            int best = Math.min(same + changes(rest, name.substring(1), known),
                1 + Math.min(changes(rest, name, known), changes(signs, name.substring(1), known)));
            known.put(key, best);
            return best;
        }

        // -- items

        void comes(Item x, int state) {
            x.state = state;
            if (state == 1) x.cameIn = arrivals++;
            events++;
            if (events <= 5000) x.trace.add(new int[] {state, x.place, clock});
            if (wishes.contains(List.of(x.account, state))) {
                notices++;
                if (notices <= 3000) keptNotices.add(new int[] {x.account, x.number, state, clock});
            }
        }

        int item(int[] a, BooleanSupplier room) {
            refuse(!isCustomer(a[3]), UNKNOWN);
            bounds(a[0], 0, 3);
            bounds(a[1], 1, 30000);
            bounds(a[2], 0, 7);
            bounds(a[4], 1, 99);
            if ((a[2] & 2) != 0) bounds(a[5], 1, 100000);
            else bounds(a[5], 0, 0);
            refuse(items.size() == 300, ROOM);
            need(room);
            Item x = new Item();
            x.number = items.size();
            x.kind = a[0];
            x.weight = a[1];
            x.services = a[2];
            x.account = a[3];
            x.person = a[4];
            x.cents = a[5];
            items.add(x);
            comes(x, 0);
            return x.number;
        }

        int address(int number, int[] a, BooleanSupplier room) {
            refuse(!isItem(a[0]), UNKNOWN);
            Item x = items.get(a[0]);
            boolean atHand = x.state == 0 || x.state == 1;
            if (number == 6) {
                refuse(!isPoint(a[1]), UNKNOWN);
                refuse(x.address != NONE || !atHand, STATE);
                need(room);
                settle(x, a[1]);
                return 1;
            }
            if (number == 7) {
                refuse(!hadSheet || x.address != NONE || x.doubtful || x.unreadable || !atHand, STATE);
                need(room);
                if (readPoint != NONE) settle(x, readPoint);
                else x.doubtful = true;
                return readPoint == NONE ? 0 : 1;
            }
            if (number == 8) return clerk(x, a[1], a[2], room);
            refuse(!isPlace(a[1]), UNKNOWN);
            refuse(x.state != 0, STATE);
            need(room);
            x.place = a[1];
            comes(x, 1);
            return 1;
        }

        void settle(Item x, int point) {
            x.address = point;
            x.doubtful = false;
            x.unreadable = false;
        }

        int clerk(Item x, int who, int point, BooleanSupplier room) {
            refuse(point != NONE && !isPoint(point), UNKNOWN);
            bounds(who, 0, 9);
            refuse(!x.doubtful || x.clerks.containsKey(who), STATE);
            need(room);
            boolean same = x.clerks.containsValue(point);
            x.clerks.put(who, point);
            if (same && point != NONE) {
                settle(x, point);
                return 1;
            }
            if (same || x.clerks.size() == 3) {
                x.doubtful = false;
                x.unreadable = true;
                return 2;
            }
            return 0;
        }

        /** The goal of an item, and the point whose street's place is the goal's place. */
        int[] goal(Item x) {
            if (x.back) return new int[] {homes.get(x.account), homes.get(x.account)};
            return effective(x.address, x.person);
        }

        int[] bars(Item x) {
            int[] row = new int[15];
            int to = x.address == NONE ? 0 : x.address + 1;
            int weight = x.weight % 4096;
            int[] told = {x.number / 256, x.number / 16 % 16, x.number % 16, x.kind, to / 256, to / 16 % 16, to % 16, x.services,
                weight / 256, weight / 16 % 16, weight % 16};
            System.arraycopy(told, 0, row, 0, told.length);
            Sixteen.close(row);
            return row;
        }

        void goesBack(Item x) {
            for (Locker l : lockers) for (int b = 0; b < l.boxes.length; b++) if (l.boxes[b] == x.number) l.boxes[b] = NONE;
            x.locker = NONE;
            x.till = NONE;
            if (x.back) {
                comes(x, 7);
            } else {
                x.back = true;
                comes(x, 1);
            }
        }

        int part(int number, int item, BooleanSupplier room) {
            refuse(!isItem(item), UNKNOWN);
            Item x = items.get(item);
            if (number == 28) {
                refuse(x.state == 5 || x.state == 7 || x.state == 8, STATE);
                need(room);
                for (Bag b : bags) b.items.remove((Integer) item);
                for (Round r : rounds) r.row.remove((Integer) item);
                for (Locker l : lockers) for (int b = 0; b < l.boxes.length; b++) if (l.boxes[b] == item) l.boxes[b] = NONE;
                x.bag = NONE;
                x.locker = NONE;
                x.till = NONE;
                comes(x, 8);
                return 1;
            }
            refuse(x.state != 4 && !(number == 24 && x.state == 6 && x.locker == NONE), STATE);
            need(room);
            if (number == 23) {
                x.till = today() + 7;
                comes(x, 6);
                return x.till;
            }
            goesBack(x);
            return x.state;
        }

        /** What is due for the price, and of its CENTS. */
        int[] due(Item x) {
            int price = price(x);
            return new int[] {x.franked != NONE || price == NONE ? 0 : price + 100, x.back ? 0 : x.cents};
        }

        int hand(int number, int[] a, BooleanSupplier room) {
            refuse(!isItem(a[0]), UNKNOWN);
            bounds(a[1], 1, 99);
            bounds(a[2], 0, 9999);
            bounds(a[3], 0, 1000000);
            Item x = items.get(a[0]);
            refuse(number == 22 ? x.state != 4 : x.state != 6 || x.locker != NONE, STATE);
            refuse((x.services & 4) != 0 && !x.back && x.person != a[1], NOT_HIM);
            refuse((x.services & 1) != 0 && a[2] == 0, NO_PROOF);
            int[] due = due(x);
            refuse(a[3] != due[0] + due[1], WRONG_SUM);
            ledgerRoom((due[0] > 0 ? 1 : 0) + (due[1] > 0 ? 1 : 0));
            need(room);
            x.till = NONE;
            comes(x, 5);
            booking(1, 0, due[0], x.number);
            booking(1, x.account, due[1], x.number);
            return 1;
        }

        // -- lockers

        int lockers(int number, int[] a, BooleanSupplier room) {
            if (number == 36) {
                refuse(!isPlace(a[0]), UNKNOWN);
                bounds(a[1], 1, 10);
                refuse(lockers.size() == 8, ROOM);
                need(room);
                Locker l = new Locker();
                l.place = a[0];
                l.boxes = new int[a[1]];
                Arrays.fill(l.boxes, NONE);
                lockers.add(l);
                return lockers.size() - 1;
            }
            int number2 = number == 25 ? a[1] : a[0];
            refuse(number == 25 && !isItem(a[0]) || number2 < 0 || number2 >= lockers.size(), UNKNOWN);
            Locker l = lockers.get(number2);
            if (number == 25) {
                Item x = items.get(a[0]);
                refuse(x.state != 4 || x.place != l.place || x.kind > 1 || (x.services & 5) != 0 || due(x)[0] + due(x)[1] != 0, STATE);
                int free = 0;
                while (free < l.boxes.length && l.boxes[free] != NONE) free++;
                refuse(free == l.boxes.length, ROOM);
                need(room);
                l.boxes[free] = x.number;
                x.locker = number2;
                x.till = today() + 3;
                comes(x, 6);
                return free;
            }
            refuse(l.wrongKeys >= 3, BARRED);
            need(room);
            for (int b = 0; b < l.boxes.length; b++) {
                if (l.boxes[b] == NONE || key(l.boxes[b]) != a[1]) continue;
                Item x = items.get(l.boxes[b]);
                l.boxes[b] = NONE;
                x.locker = NONE;
                x.till = NONE;
                comes(x, 5);
                return x.number;
            }
            l.wrongKeys++;
            return NONE;
        }

        static int key(int item) {
            long product = ((item + 1L) * 1103515245L + 12345L) & 0xFFFFFFFFL;
            return 1000 + (int) ((product >> 16) % 9000);
        }

        // -- rounds and the machine

        int machine(int[] a, BooleanSupplier room) {
            bounds(a[0], 2, 16);
            bounds(a[1], 1, 2000);
            bounds(a[2], 1, 500);
            bounds(a[3], 0, 4000);
            need(room);
            bins = a[0];
            gap = a[1];
            step = a[2];
            turn = a[3];
            return 1;
        }

        int rounds(int number, int[] a, BooleanSupplier room) {
            if (number == 11) {
                refuse(!isPlace(a[0]), UNKNOWN);
                bounds(a[1], -2000, 2000);
                bounds(a[2], -2000, 2000);
                refuse(rounds.size() == 12, ROOM);
                need(room);
                Round r = new Round();
                r.place = a[0];
                r.x = a[1];
                r.y = a[2];
                rounds.add(r);
                return rounds.size() - 1;
            }
            int round = number == 12 ? a[1] : a[0];
            refuse(number == 12 && !isPoint(a[0]) || round < 0 || round >= rounds.size(), UNKNOWN);
            Round r = rounds.get(round);
            if (number == 12) {
                refuse(placeOf(a[0]) != r.place || rounds.stream().anyMatch(o -> o.points.contains(a[0])), STATE);
                refuse(r.points.size() == 20, ROOM);
                need(room);
                r.points.add(a[0]);
                return r.points.size();
            }
            need(room);
            List<Integer> left = new ArrayList<>(r.points);
            left.sort(null);
            if (left.size() <= 8) {
                List<List<Integer>> best = new ArrayList<>();
                orders(r, new ArrayList<>(), left, best);
                r.points = new ArrayList<>(best.get(0));
            } else {
                List<Integer> order = new ArrayList<>();
                int[] at = {r.x, r.y};
                while (!left.isEmpty()) {
                    Integer next = left.get(0);
                    for (Integer p : left) if (apart(at, xy(p)) < apart(at, xy(next))) next = p;
                    order.add(next);
                    left.remove(next);
                    at = xy(next);
                }
                r.points = order;
            }
            return length(r, r.points);
        }

        static int apart(int[] a, int[] b) {
            return Math.abs(a[0] - b[0]) + Math.abs(a[1] - b[1]);
        }

        int length(Round r, List<Integer> order) {
            int[] at = {r.x, r.y};
            int way = 0;
            for (int p : order) {
                way += apart(at, xy(p));
                at = xy(p);
            }
            return way + apart(at, new int[] {r.x, r.y});
        }

        void orders(Round r, List<Integer> begun, List<Integer> left, List<List<Integer>> best) {
            if (left.isEmpty() && (best.isEmpty() || length(r, begun) < length(r, best.get(0)))) {
                best.clear();
                best.add(new ArrayList<>(begun));
            }
            for (Integer p : left) {
                List<Integer> rest = new ArrayList<>(left);
                rest.remove(p);
                begun.add(p);
                orders(r, begun, rest, best);
                begun.remove(begun.size() - 1);
            }
        }

        int sort(int round, BooleanSupplier room) {
            refuse(round < 0 || round >= rounds.size(), UNKNOWN);
            Round r = rounds.get(round);
            refuse(!r.row.isEmpty(), STATE);
            need(room);
            List<Item> taken = new ArrayList<>();
            Map<Item, Integer> place = new HashMap<>();
            for (Item x : items) {
                if (x.state != 1 || x.place != r.place || !x.back && x.address == NONE) continue;
                int goal = goal(x)[0];
                if (goal < 0 || !r.points.contains(goal)) continue;
                taken.add(x);
                place.put(x, r.points.indexOf(goal));
            }
            taken.sort(Comparator.comparingLong(x -> x.cameIn));
            List<Item> ranked = new ArrayList<>(taken);
            ranked.sort(Comparator.comparingInt(place::get));
            passes = 0;
            if (!taken.isEmpty()) {
                passes = 1;
                while (Math.pow(bins, passes) < taken.size()) passes++;
            }
            Set<Item> strays = new LinkedHashSet<>();
            List<Item> feed = taken;
            for (int q = 0; q < passes; q++) {
                int[] own = new int[feed.size()];
                for (int k = 0; k < feed.size(); k++) own[k] = ranked.indexOf(feed.get(k)) / (int) Math.pow(bins, q) % bins;
                int[] into = pass(own);
                List<Item> next = new ArrayList<>();
                for (int bin = 0; bin <= bins; bin++) {
                    for (int k = 0; k < own.length; k++) {
                        if (into[k] == bin) next.add(feed.get(k));
                        if (into[k] != own[k]) strays.add(feed.get(k));
                    }
                }
                feed = next;
            }
            wrong = new ArrayList<>();
            for (Item x : items) if (strays.contains(x)) wrong.add(x.number);
            for (Item x : feed) {
                if (strays.contains(x)) continue;
                r.row.add(x.number);
                comes(x, 3);
            }
            return r.row.size();
        }

        /** Gate by gate: which items come to it, when, and how it stands then. */
        int[] pass(int[] own) {
            int[] into = new int[own.length];
            Arrays.fill(into, bins);
            List<Integer> coming = new ArrayList<>();
            for (int k = 0; k < own.length; k++) coming.add(k);
            for (int gate = 0; gate < bins; gate++) {
                List<Integer> passing = new ArrayList<>();
                boolean open = false;
                long before = Long.MIN_VALUE / 2;
                for (int k : coming) {
                    long when = (long) k * gap + (long) step * (gate + 1);
                    boolean wanted = own[k] == gate;
                    if (wanted != open && when - before >= turn) open = wanted;
                    if (open) into[k] = gate;
                    else passing.add(k);
                    before = when;
                }
                coming = passing;
            }
            return into;
        }

        int out(int round, BooleanSupplier room) {
            refuse(round < 0 || round >= rounds.size(), UNKNOWN);
            Round r = rounds.get(round);
            refuse(r.row.isEmpty(), STATE);
            need(room);
            int size = r.row.size();
            for (int i : r.row) comes(items.get(i), 4);
            r.row.clear();
            return size;
        }

        // -- lines and bags

        int lines(int number, int[] a, BooleanSupplier room) {
            if (number == 16) {
                refuse(!isPlace(a[0]) || !isPlace(a[1]), UNKNOWN);
                refuse(a[0] == a[1], OUTSIDE);
                bounds(a[2], 0, 1439);
                bounds(a[3], 1, 3000);
                bounds(a[4], 1, 20);
                refuse(lines.size() == 20, ROOM);
                need(room);
                lines.add(new Line(a[0], a[1], a[2], a[3], a[4], new int[] {minuteFrom(clock + 1, a[2]), 0}));
                return lines.size() - 1;
            }
            refuse(a[0] < 0 || a[0] >= lines.size(), UNKNOWN);
            bounds(a[1], 1, 600);
            need(room);
            Line l = lines.get(a[0]);
            l.next[0] += a[1];
            l.next[1] += a[1];
            return l.next[1];
        }

        static int minuteFrom(int t, int minute) {
            while (t % 1440 != minute) t++;
            return t;
        }

        int bags(int number, int[] a, BooleanSupplier room) {
            if (number == 18) {
                refuse(!isPlace(a[0]) || !isPlace(a[1]), UNKNOWN);
                refuse(a[0] == a[1], OUTSIDE);
                refuse(bags.size() == 80, ROOM);
                need(room);
                Bag b = new Bag();
                b.place = a[0];
                b.end = a[1];
                bags.add(b);
                return bags.size() - 1;
            }
            refuse(a[0] < 0 || a[0] >= bags.size() || number == 19 && !isItem(a[1]), UNKNOWN);
            Bag b = bags.get(a[0]);
            if (number == 19) {
                Item x = items.get(a[1]);
                refuse(b.state != 0 || x.state != 1 || x.place != b.place || x.address == NONE || placeOf(goal(x)[1]) != b.end, STATE);
                refuse(b.items.size() == 40, ROOM);
                need(room);
                b.items.add(x.number);
                x.bag = a[0];
                comes(x, 2);
                return b.items.size();
            }
            refuse(number == 20 ? b.state != 0 : b.state != 1 || b.place != b.end, STATE);
            need(room);
            int size = b.items.size();
            if (number == 20) {
                b.state = 1;
                return size;
            }
            b.state = 3;
            for (int i : b.items) {
                Item x = items.get(i);
                x.bag = NONE;
                x.place = b.end;
                comes(x, 1);
            }
            b.items.clear();
            return size;
        }

        /** For each place that is reached from one now: when, and by which first line. */
        Map<Integer, int[]> way(int from) {
            Map<Integer, int[]> reached = new TreeMap<>();
            reached.put(from, new int[] {clock, NONE});
            Set<Integer> looked = new LinkedHashSet<>();
            while (true) {
                Integer at = null;
                for (int p : reached.keySet()) {
                    if (!looked.contains(p) && (at == null || reached.get(p)[0] < reached.get(at)[0])) at = p;
                }
                if (at == null) return reached;
                looked.add(at);
                int u = reached.get(at)[0];
                for (int l = 0; l < lines.size(); l++) {
                    Line line = lines.get(l);
                    if (line.from != at) continue;
                    int there = (line.next[0] >= u ? line.next[0] : minuteFrom(u, line.leaves)) + line.takes;
                    if (reached.containsKey(line.to) && reached.get(line.to)[0] <= there) continue;
                    reached.put(line.to, new int[] {there, at == from ? l : reached.get(at)[1]});
                }
            }
        }

        int tick(int n, BooleanSupplier room) {
            bounds(n, 1, 1440);
            refuse((long) clock + n > 1000000000L, OUTSIDE);
            need(room);
            for (int k = 0; k < n; k++) minute();
            return clock;
        }

        void minute() {
            clock++;
            if (clock % 1440 == 0) {
                for (Item x : items) if (x.state == 6 && x.till <= today()) goesBack(x);
                for (int[] o : moneyOrders) {
                    if (o[0] == 0 && o[4] <= today()) {
                        o[0] = 2;
                        booking(3, o[1], o[3], NONE);
                    }
                }
                for (Locker l : lockers) l.wrongKeys = 0;
            }
            for (Bag b : bags) {
                if (b.state == 2 && b.arrives == clock) {
                    b.state = 1;
                    b.place = lines.get(b.line).to;
                    b.line = NONE;
                    b.arrives = NONE;
                }
            }
            for (int l = 0; l < lines.size(); l++) {
                Line line = lines.get(l);
                if (line.next[0] != clock) continue;
                Map<Integer, int[]> way = way(line.from);
                List<Bag> takes = new ArrayList<>();
                int space = line.space;
                for (Bag b : bags) if (b.line == l) space--;
                for (Bag b : bags) {
                    boolean goes = b.state == 1 && b.place == line.from && way.containsKey(b.end) && way.get(b.end)[1] == l;
                    if (goes && takes.size() < space) takes.add(b);
                }
                for (Bag b : takes) {
                    b.state = 2;
                    b.place = NONE;
                    b.line = l;
                    b.arrives = clock + line.takes;
                }
                line.next[0] = minuteFrom(clock + 1, line.leaves);
                line.next[1] = 0;
            }
        }

        // -- money

        void booking(int from, int to, int cents, int item) {
            if (cents == 0) return;
            balances.set(from, balances.get(from) - cents);
            balances.set(to, balances.get(to) + cents);
            ledger.add(new int[] {from, to, cents, item});
        }

        void ledgerRoom(int more) {
            long open = moneyOrders.stream().filter(o -> o[0] == 0).count();
            refuse(more > 0 && ledger.size() + more + open > 2000, ROOM);
        }

        int money(int number, int[] a, BooleanSupplier room) {
            switch (number) {
                case 29:
                    refuse(!isPoint(a[0]), UNKNOWN);
                    refuse(customers() == 30, ROOM);
                    need(room);
                    balances.add(0L);
                    homes.add(a[0]);
                    return balances.size() - 1;
                case 30:
                    refuse(!isCustomer(a[0]), UNKNOWN);
                    bounds(a[1], 1, 1000000);
                    ledgerRoom(1);
                    need(room);
                    booking(1, a[0], a[1], NONE);
                    return (int) (long) balances.get(a[0]);
                case 32: {
                    refuse(!isItem(a[0]), UNKNOWN);
                    Item x = items.get(a[0]);
                    int price = price(x);
                    refuse(x.franked != NONE || x.state > 1 || price == NONE, STATE);
                    refuse(balances.get(x.account) < price, POOR);
                    ledgerRoom(price > 0 ? 1 : 0);
                    need(room);
                    booking(x.account, 0, price, x.number);
                    x.franked = price;
                    return price;
                }
                case 33:
                    refuse(!isCustomer(a[0]), UNKNOWN);
                    bounds(a[1], 1, 99);
                    bounds(a[2], 1, 100000);
                    refuse(balances.get(a[0]) < a[2], POOR);
                    refuse(moneyOrders.size() == 60, ROOM);
                    ledgerRoom(2);
                    need(room);
                    booking(a[0], 3, a[2], NONE);
                    moneyOrders.add(new int[] {0, a[0], a[1], a[2], today() + 30});
                    return moneyOrders.size() - 1;
                case 34: {
                    refuse(a[0] < 0 || a[0] >= moneyOrders.size(), UNKNOWN);
                    bounds(a[1], 1, 99);
                    bounds(a[2], 0, 9999);
                    int[] o = moneyOrders.get(a[0]);
                    refuse(o[0] != 0, STATE);
                    refuse(o[2] != a[1], NOT_HIM);
                    refuse(a[2] == 0, NO_PROOF);
                    need(room);
                    o[0] = 1;
                    booking(3, 1, o[3], NONE);
                    return o[3];
                }
                default: {
                    refuse(!isItem(a[0]), UNKNOWN);
                    bounds(a[1], 1, 100000);
                    Item x = items.get(a[0]);
                    refuse(x.state != 8 || (x.services & 1) == 0 || x.claimed, STATE);
                    ledgerRoom(1);
                    need(room);
                    x.claimed = true;
                    booking(2, x.account, Math.min(5000, a[1]), x.number);
                    return Math.min(5000, a[1]);
                }
            }
        }

        int tariff(String t, BooleanSupplier room) {
            List<int[]> rows = new ArrayList<>();
            int at = 0;
            do {
                Entry e = entry(t, at, "K#,#=#;", "V#=#;");
                refuse(!e.whole, -1000 - e.at);
                List<Integer> n = e.numbers;
                boolean good = n.get(n.size() - 1) <= 9999 && rows.size() < 40;
                if (e.letter == 'K') {
                    good &= n.get(0) <= 3 && n.get(1) >= 1 && n.get(1) <= 30000;
                    for (int[] row : rows) if (row[0] == n.get(0)) good &= n.get(1) > row[1];
                    rows.add(new int[] {n.get(0), n.get(1), n.get(2)});
                } else {
                    good &= n.get(0) == 1 || n.get(0) == 2 || n.get(0) == 4;
                    for (int[] row : rows) good &= row[0] != 100 + n.get(0);
                    rows.add(new int[] {100 + n.get(0), 0, n.get(1)});
                }
                refuse(!good, -1000 - at);
                at = e.at;
            } while (at < t.length());
            need(room);
            tariff = rows;
            return rows.size();
        }

        int price(Item x) {
            int price = NONE;
            for (int[] row : tariff) if (price == NONE && row[0] == x.kind && x.weight <= row[1]) price = row[2];
            if (price == NONE) return NONE;
            for (int[] row : tariff) if (row[0] > 100 && (x.services & (row[0] - 100)) != 0) price += row[2];
            return price;
        }

        // -- traces and notices

        int tell(int number, int[] a, BooleanSupplier room) {
            if (number == 39) {
                refuse(!isCustomer(a[0]), UNKNOWN);
                bounds(a[1], 0, 8);
                need(room);
                return (a[2] == 1 ? wishes.add(List.of(a[0], a[1])) : wishes.remove(List.of(a[0], a[1]))) ? 1 : 0;
            }
            refuse(a[0] < 0 || a[0] > 7 || number == 38 && !isItem(a[1]), UNKNOWN);
            if (number == 37) {
                bounds(a[1], 0, 1000000000);
                need(room);
                offsets[a[0]] = clock - a[1];
                return offsets[a[0]];
            }
            bounds(a[2], 0, 9);
            bounds(a[3], 0, 1000000000);
            bounds(a[3] + offsets[a[0]], 0, clock);
            need(room);
            events++;
            if (events <= 5000) items.get(a[1]).trace.add(new int[] {20 + a[2], NONE, a[3] + offsets[a[0]]});
            return 1;
        }
    }
}
