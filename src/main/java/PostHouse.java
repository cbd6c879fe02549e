import java.util.Arrays;

/**
 * A post of some places. Every act is checked, written down in a log, and only then done, so that the
 * house can be made anew from what the log's disk still has when its power went.
 */
public final class PostHouse {
    public static final int NONE = -1;
    public static final int UNKNOWN = -101, OUTSIDE = -102, STATE = -103, ROOM = -104, DOWN = -105, LOST = -106, HELD = -110, RING = -111;
    public static final int NOT_HIM = -112, NO_PROOF = -113, WRONG_SUM = -114, BARRED = -115, POOR = -116;

    private static final int DAY = 1440, LAST_MINUTE = 1000000000;
    /** What a text's fault at its first byte answers. */
    private static final int FAULT = -1000;
    /** Further than any way, and later than any minute. */
    private static final int ENDLESS = 0x7FFFFFFF;

    private final Tape tape = new Tape();
    /** The tape of an act that is done again: the one that lies there is no part of the house. */
    private final Tape tapeAgain = new Tape();
    private final Bars bars = new Bars();
    private final Log log;
    private final Chronicle chronicle;
    private final Book book;
    private final Sheet sheet;
    private final Money money;
    private final Items items;
    private final Lockers lockers;
    private final Rounds rounds;
    private final Lines lines;

    public PostHouse() {
        log = new Log(tape);
        chronicle = new Chronicle(log);
        book = new Book(log, chronicle);
        sheet = new Sheet(log, book);
        money = new Money(log, chronicle, book);
        items = new Items(log, chronicle, book, sheet, money);
        lockers = new Lockers(log, book, items);
        rounds = new Rounds(log, book, items);
        lines = new Lines(log, chronicle, book, items);
    }

    public int feed(int a, int b, int c, int d, int e) throws IllegalStateException {
        if (tape.length + 20 > Tape.MOST) throw new IllegalStateException("the tape has no room for twenty bytes");
        tape.append(a);
        tape.append(b);
        tape.append(c);
        tape.append(d);
        tape.append(e);
        return tape.length;
    }

    public void end(int n) throws IllegalArgumentException {
        if (outside(n, 0, tape.length)) throw new IllegalArgumentException("the tape has no such place");
        tape.length = n;
    }

    public int sync() {
        return log.down ? DOWN : log.writeAll();
    }

    public int cut(int n, int tear) {
        return log.down ? DOWN : log.setCut(n, tear);
    }

    public int start() {
        if (!log.down) return STATE;
        clearHouse();
        log.beginAgain();
        for (int block = 1; block <= log.used; block++) {
            log.gather(block);
            if (log.isLast(block)) {
                for (int k = 0; k < Log.MOST && log.readsRecord(tapeAgain); k++) act(tapeAgain);
                log.forgetGathered();
            }
        }
        return log.endAgain();
    }

    public int verify() {
        return log.down ? DOWN : log.firstBad();
    }

    public int octet(int block, int i) throws IndexOutOfBoundsException {
        if (!Log.hasByte(block, i)) throw new IndexOutOfBoundsException("no such block or byte");
        return log.byteAt(block, i);
    }

    public int poke(int block, int i, int mask) throws IndexOutOfBoundsException {
        if (!Log.hasByte(block, i)) throw new IndexOutOfBoundsException("no such block or byte");
        return log.change(block, i, mask);
    }

    public int count(int what) {
        if (log.down) return DOWN;
        switch (what) {
            case 0: return book.places;
            case 1: return book.streets;
            case 2: return book.ranges;
            case 3: return book.points;
            case 4: return book.orders;
            case 5: return items.count;
            case 6: return rounds.count;
            case 7: return lines.count;
            case 8: return lines.bags;
            case 9: return lockers.count;
            case 10: return money.customers;
            case 11: return money.bookings;
            case 12: return money.orders;
            case 13: return chronicle.events;
            case 14: return chronicle.notices;
            case 15: return log.used;
            case 16: return log.waitingRecords;
            case 17: return log.waitingBytes;
            default: return OUTSIDE;
        }
    }

    public int book() {
        if (!log.stages(1, 0, 0, 0, 0, 0, 0)) return DOWN;
        int answer = act(tape);
        tape.length = 0;
        return answer;
    }

    public int forward(int point, int person, int to, int until) {
        return log.stages(2, point, person, to, until, 0, 0) ? act(tape) : DOWN;
    }

    public int hold(int point, int person, int until) {
        return log.stages(3, point, person, until, 0, 0, 0) ? act(tape) : DOWN;
    }

    public int effective(int point, int person) {
        return log.down ? DOWN : book.askedGoal(point, person);
    }

    public int lastPoint(int point, int person) {
        if (log.down) return DOWN;
        int goal = book.askedGoal(point, person);
        return goal == UNKNOWN || goal == OUTSIDE ? goal : book.lastAsked;
    }

    public int find(int code) {
        return log.down ? DOWN : book.placeOf(code);
    }

    public int pointAt(int point, int what) {
        if (log.down) return DOWN;
        if (!book.hasPoint(point)) return UNKNOWN;
        return what == 5 ? rounds.roundOf(point) : book.tellPoint(point, what);
    }

    public int sheet(int width) {
        if (!log.stages(4, width, 0, 0, 0, 0, 0)) return DOWN;
        int answer = act(tape);
        tape.length = 0;
        return answer;
    }

    public int read() {
        return log.down ? DOWN : sheet.point;
    }

    public int textLine(int i, int what) {
        return log.down ? DOWN : sheet.tellLine(i, what);
    }

    public int sign(int i, int k, int what) {
        return log.down ? DOWN : sheet.tellSign(i, k, what);
    }

    public int item(int kind, int weight, int services, int account, int person, int cents) {
        return log.stages(5, kind, weight, services, account, person, cents) ? act(tape) : DOWN;
    }

    public int address(int item, int point) {
        return log.stages(6, item, point, 0, 0, 0, 0) ? act(tape) : DOWN;
    }

    public int take(int item) {
        return log.stages(7, item, 0, 0, 0, 0, 0) ? act(tape) : DOWN;
    }

    public int clerk(int item, int who, int point) {
        return log.stages(8, item, who, point, 0, 0, 0) ? act(tape) : DOWN;
    }

    public int post(int item, int place) {
        return log.stages(9, item, place, 0, 0, 0, 0) ? act(tape) : DOWN;
    }

    public int about(int item, int what) {
        if (log.down) return DOWN;
        return items.has(item) ? items.tellAbout(item, what) : UNKNOWN;
    }

    public int bar(int item, int k) {
        if (log.down) return DOWN;
        if (!items.has(item)) return UNKNOWN;
        if (outside(k, 0, Bars.SYMBOLS - 1)) return OUTSIDE;
        items.drawBars(item, bars);
        return bars.row[k];
    }

    public int scan() {
        if (log.down) return DOWN;
        boolean fits = tape.length == Bars.SYMBOLS;
        if (fits) bars.takeFrom(tape);
        tape.length = 0;
        if (!fits) return OUTSIDE;
        return bars.mends() && items.has(bars.number()) ? bars.number() : NONE;
    }

    public int mended() {
        return log.down ? DOWN : bars.mended;
    }

    public int machine(int bins, int gap, int step, int turn) {
        return log.stages(10, bins, gap, step, turn, 0, 0) ? act(tape) : DOWN;
    }

    public int round(int place, int x, int y) {
        return log.stages(11, place, x, y, 0, 0, 0) ? act(tape) : DOWN;
    }

    public int assign(int point, int round) {
        return log.stages(12, point, round, 0, 0, 0, 0) ? act(tape) : DOWN;
    }

    public int arrange(int round) {
        return log.stages(13, round, 0, 0, 0, 0, 0) ? act(tape) : DOWN;
    }

    public int stop(int round, int i) {
        if (log.down) return DOWN;
        return rounds.has(round) ? rounds.stopAt(round, i) : UNKNOWN;
    }

    public int sort(int round) {
        return log.stages(14, round, 0, 0, 0, 0, 0) ? act(tape) : DOWN;
    }

    public int passes() {
        return log.down ? DOWN : rounds.passCount;
    }

    public int wrong(int i) {
        if (log.down) return DOWN;
        return outside(i, 0, rounds.strayCount - 1) ? NONE : rounds.strays[i];
    }

    public int row(int round, int i) {
        if (log.down) return DOWN;
        return rounds.has(round) ? rounds.sortedAt(round, i) : UNKNOWN;
    }

    public int out(int round) {
        return log.stages(15, round, 0, 0, 0, 0, 0) ? act(tape) : DOWN;
    }

    public int leg(int from, int to, int leaves, int takes, int space) {
        return log.stages(16, from, to, leaves, takes, space, 0) ? act(tape) : DOWN;
    }

    public int late(int leg, int by) {
        return log.stages(17, leg, by, 0, 0, 0, 0) ? act(tape) : DOWN;
    }

    public int bag(int place, int to) {
        return log.stages(18, place, to, 0, 0, 0, 0) ? act(tape) : DOWN;
    }

    public int into(int bag, int item) {
        return log.stages(19, bag, item, 0, 0, 0, 0) ? act(tape) : DOWN;
    }

    public int closeBag(int bag) {
        return log.stages(20, bag, 0, 0, 0, 0, 0) ? act(tape) : DOWN;
    }

    public int openBag(int bag) {
        return log.stages(21, bag, 0, 0, 0, 0, 0) ? act(tape) : DOWN;
    }

    public int bagAt(int bag, int what) {
        if (log.down) return DOWN;
        if (!lines.hasBag(bag)) return UNKNOWN;
        return outside(what, 0, Lines.BAG_FACTS - 1) ? OUTSIDE : lines.bag[what][bag];
    }

    public int way(int from, int to, int what) {
        return log.down ? DOWN : lines.tellWay(from, to, what);
    }

    public int hand(int item, int who, int proof, int cents) {
        return log.stages(22, item, who, proof, cents, 0, 0) ? act(tape) : DOWN;
    }

    public int miss(int item) {
        return log.stages(23, item, 0, 0, 0, 0, 0) ? act(tape) : DOWN;
    }

    public int refuse(int item) {
        return log.stages(24, item, 0, 0, 0, 0, 0) ? act(tape) : DOWN;
    }

    public int put(int item, int locker) {
        return log.stages(25, item, locker, 0, 0, 0, 0) ? act(tape) : DOWN;
    }

    public int pickUp(int item, int who, int proof, int cents) {
        return log.stages(26, item, who, proof, cents, 0, 0) ? act(tape) : DOWN;
    }

    public int openBox(int locker, int key) {
        return log.stages(27, locker, key, 0, 0, 0, 0) ? act(tape) : DOWN;
    }

    public int lose(int item) {
        return log.stages(28, item, 0, 0, 0, 0, 0) ? act(tape) : DOWN;
    }

    public int account(int point) {
        return log.stages(29, point, 0, 0, 0, 0, 0) ? act(tape) : DOWN;
    }

    public int deposit(int account, int cents) {
        return log.stages(30, account, cents, 0, 0, 0, 0) ? act(tape) : DOWN;
    }

    public long balance(int account) {
        if (log.down) return DOWN;
        return money.has(account) ? money.balance[account] : UNKNOWN;
    }

    public int entry(int i, int what) {
        return log.down ? DOWN : money.tellBooking(i, what);
    }

    public int tariff() {
        if (!log.stages(31, 0, 0, 0, 0, 0, 0)) return DOWN;
        int answer = act(tape);
        tape.length = 0;
        return answer;
    }

    public int price(int item) {
        if (log.down) return DOWN;
        return items.has(item) ? items.priceOf(item) : UNKNOWN;
    }

    public int frank(int item) {
        return log.stages(32, item, 0, 0, 0, 0, 0) ? act(tape) : DOWN;
    }

    public int order(int account, int person, int cents) {
        return log.stages(33, account, person, cents, 0, 0, 0) ? act(tape) : DOWN;
    }

    public int payOut(int order, int person, int proof) {
        return log.stages(34, order, person, proof, 0, 0, 0) ? act(tape) : DOWN;
    }

    public int orderAt(int order, int what) {
        if (log.down) return DOWN;
        if (!money.hasOrder(order)) return UNKNOWN;
        return outside(what, 0, Money.ORDER_FACTS - 1) ? OUTSIDE : money.order[what][order];
    }

    public int claim(int item, int cents) {
        return log.stages(35, item, cents, 0, 0, 0, 0) ? act(tape) : DOWN;
    }

    public int locker(int place, int boxes) {
        return log.stages(36, place, boxes, 0, 0, 0, 0) ? act(tape) : DOWN;
    }

    public int lockerAt(int locker, int what) {
        if (log.down) return DOWN;
        return lockers.has(locker) ? lockers.tell(locker, what) : UNKNOWN;
    }

    public int device(int d, int told) {
        return log.stages(37, d, told, 0, 0, 0, 0) ? act(tape) : DOWN;
    }

    public int scanned(int d, int item, int kind, int t) {
        return log.stages(38, d, item, kind, t, 0, 0) ? act(tape) : DOWN;
    }

    public int trace(int item, int i, int what) {
        if (log.down) return DOWN;
        return items.has(item) ? chronicle.tellEvent(item, i, what) : UNKNOWN;
    }

    public int wish(int account, int sort, boolean on) {
        return log.stages(39, account, sort, on ? 1 : 0, 0, 0, 0) ? act(tape) : DOWN;
    }

    public int notice(int i, int what) {
        return log.down ? DOWN : chronicle.tellNotice(i, what);
    }

    public int tick(int n) {
        return log.stages(40, n, 0, 0, 0, 0, 0) ? act(tape) : DOWN;
    }

    public int now() {
        return log.down ? DOWN : chronicle.time;
    }

    public int audit() {
        if (log.down) return DOWN;
        return money.faults() + lines.overladen() + lines.misplaced() + rounds.misplaced() + lockers.misplaced();
    }

    /** Does the act that is staged in the log; its numbers are those of the records. */
    private int act(Tape source) {
        int a = log.args[0], b = log.args[1], c = log.args[2], d = log.args[3], e = log.args[4], f = log.args[5];
        switch (log.number) {
            case 1: return book.readText(source);
            case 2: return book.tellForwarding(a, b, c, d);
            case 3: return book.tellHold(a, b, c);
            case 4: return sheet.show(source, a);
            case 5: return items.tell(a, b, c, d, e, f);
            case 6: return items.setAddress(a, b);
            case 7: return items.takeReading(a);
            case 8: return items.hearClerk(a, b, c);
            case 9: return items.postAt(a, b);
            case 10: return rounds.setMachine(a, b, c, d);
            case 11: return rounds.make(a, b, c);
            case 12: return rounds.addStop(a, b);
            case 13: return rounds.arrangeStops(a);
            case 14: return rounds.sortItems(a);
            case 15: return rounds.sendOut(a);
            case 16: return lines.make(a, b, c, d, e);
            case 17: return lines.delay(a, b);
            case 18: return lines.makeBag(a, b);
            case 19: return lines.fillBag(a, b);
            case 20: return lines.shutBag(a);
            case 21: return lines.emptyBag(a);
            case 22: return items.handAtDoor(a, b, c, d);
            case 23: return items.missAtDoor(a);
            case 24: return items.refuseItem(a);
            case 25: return lockers.fill(a, b);
            case 26: return items.handAtPost(a, b, c, d);
            case 27: return lockers.tryKey(a, b);
            case 28: return loseItem(a);
            case 29: return money.openAccount(a);
            case 30: return money.payIn(a, b);
            case 31: return money.readTariff(source);
            case 32: return items.frankItem(a);
            case 33: return money.makeOrder(a, b, c);
            case 34: return money.payOrder(a, b, c);
            case 35: return items.claimFor(a, b);
            case 36: return lockers.make(a, b);
            case 37: return chronicle.setDevice(a, b);
            case 38: return scanItem(a, b, c, d);
            case 39: return money.isCustomer(a) ? chronicle.setWish(a, b, c == 1) : UNKNOWN;
            case 40: return goOn(a);
            default: return UNKNOWN;
        }
    }

    private void clearHouse() {
        chronicle.clear();
        book.clear();
        sheet.clear();
        money.clear();
        items.clear();
        lockers.clear();
        rounds.clear();
        lines.clear();
    }

    private int scanItem(int device, int item, int kind, int told) {
        return items.has(item) ? chronicle.scanBy(device, item, kind, told) : UNKNOWN;
    }

    private int loseItem(int item) {
        if (!items.has(item)) return UNKNOWN;
        if (items.isEnded(item)) return STATE;
        if (!log.admits()) return ROOM;
        lines.drop(item);
        rounds.drop(item);
        lockers.drop(item);
        items.come(item, Items.IS_LOST);
        return 1;
    }

    private int goOn(int minutes) {
        if (outside(minutes, 1, DAY) || minutes > LAST_MINUTE - chronicle.time) return OUTSIDE;
        if (!log.admits()) return ROOM;
        int end = chronicle.time + minutes;
        // Nothing happens in the minutes between, so the clock may leap over them.
        for (int k = 0; k < minutes && chronicle.time < end; k++) {
            int dayEnd = (chronicle.today() + 1) * DAY;
            chronicle.time = Math.min(end, Math.min(dayEnd, lines.nextMinute()));
            if (chronicle.time == dayEnd) beginDay();
            lines.arrive();
            lines.leaveAll();
        }
        return chronicle.time;
    }

    private void beginDay() {
        int today = chronicle.today();
        for (int item = 0; item < items.count; item++) {
            if (items.isHeldTill(item, today)) {
                lockers.drop(item);
                items.goBack(item);
            }
        }
        money.giveBack(today);
        lockers.unbar();
    }

    private static boolean outside(int n, int least, int most) {
        return n < least || n > most;
    }

    /** Takes a number out of the first so many of a row; answers how many are left. */
    private static int without(int[] row, int size, int number) {
        int kept = 0;
        for (int k = 0; k < size && k < row.length; k++) {
            if (row[k] != number) row[kept++] = row[k];
        }
        return kept;
    }

    /** Bytes that come in, and how a text in them is read entry by entry. */
    static final class Tape {
        static final int MOST = 4096;
        private static final int DIGITS = 6, LETTERS = 10;

        final byte[] bytes = new byte[MOST];
        int length;
        int at;
        final int[] numbers = new int[4];
        private int numbersRead;
        /** The entry's name, its letters being digits 1 to 26 of base 27. */
        long name;

        void append(int word) {
            for (int shift = 24; shift >= 0 && length < MOST; shift -= 8) bytes[length++] = (byte) (word >> shift);
        }

        void fill(byte[] from, int first, int size) {
            length = 0;
            for (int k = first; k < first + size && k < from.length && length < MOST; k++) bytes[length++] = from[k];
        }

        int byteAt(int i) {
            return i >= 0 && i < length ? bytes[i] & 255 : NONE;
        }

        boolean hasMore() {
            return at < length;
        }

        /**
         * Reads an entry of one of these shapes (a letter, then # for a number, @ for a name, up to a ;) and
         * answers its letter; NONE when the byte where the reading stopped cannot stand there.
         */
        int readsEntry(String shapes) {
            numbersRead = 0;
            int letter = byteAt(at);
            int k = letter >= 'A' && letter <= 'Z' ? shapes.indexOf((char) letter) : NONE;
            if (k < 0) return NONE;
            at++;
            for (k++; k < shapes.length(); k++) {
                char shape = shapes.charAt(k);
                if (!reads(shape)) return NONE;
                if (shape == ';') return letter;
            }
            return NONE;
        }

        private boolean reads(char shape) {
            if (shape == '#') return readsNumber();
            if (shape == '@') return readsName();
            if (byteAt(at) != shape) return false;
            at++;
            return true;
        }

        private boolean readsNumber() {
            int value = 0;
            int digits = 0;
            while (digits < DIGITS && byteAt(at) >= '0' && byteAt(at) <= '9') {
                value = value * 10 + byteAt(at) - '0';
                digits++;
                at++;
            }
            if (digits == 0 || numbersRead >= numbers.length) return false;
            numbers[numbersRead++] = value;
            return true;
        }

        private boolean readsName() {
            name = 0;
            int letters = 0;
            while (letters < LETTERS && byteAt(at) >= 'A' && byteAt(at) <= 'Z') {
                name = name * 27 + byteAt(at) - 'A' + 1;
                letters++;
                at++;
            }
            return letters > 0;
        }
    }

    /** The records of what was done: those that wait, and those that lie on the disk. */
    static final class Log {
        static final int BLOCKS = 150, BLOCK = 256, LOAD = 248, SUMMED = 252;
        static final int MOST = BLOCKS * LOAD;
        private static final int ACTS = 40, BOOK = 1, SHEET = 4, TARIFF = 31, WISH = 39;
        /** How many arguments each act has, by its number (no act has the number 0). */
        private static final int[] ARGUMENTS = {
            0, 0, 4, 3, 1, 6, 2, 1, 3, 2, 4, 3, 2, 1, 1, 1, 5, 2, 2, 2, 1,
            1, 4, 1, 1, 2, 4, 2, 1, 1, 2, 0, 1, 3, 3, 2, 2, 2, 4, 3, 1};

        private final Tape tape;
        private final byte[] disk = new byte[BLOCKS * BLOCK];
        private final boolean[] torn = new boolean[BLOCKS];
        private final byte[] fresh = new byte[BLOCK];
        int used;
        /** The records that wait; while acts are done again, those of the sync that is read. */
        private final byte[] waiting = new byte[MOST];
        int waitingBytes;
        int waitingRecords;
        private int readTo;
        boolean down;
        /** How many blocks are still written whole before power goes; NONE: it stays. */
        private int blocksTillCut = NONE;
        private int tear;
        private boolean again;
        private int doneAgain;
        int number;
        final int[] args = new int[6];

        Log(Tape tape) {
            this.tape = tape;
        }

        /** Sets out the next act and its arguments; answers whether the house is up to do it. */
        boolean stages(int act, int a, int b, int c, int d, int e, int f) {
            number = act;
            args[0] = a;
            args[1] = b;
            args[2] = c;
            args[3] = d;
            args[4] = e;
            args[5] = f;
            return !down;
        }

        /**
         * The last question of every act: has the log room for its record? If so the record waits from now on,
         * and the act must be done.
         */
        boolean admits() {
            if (again) {
                doneAgain++;
                return true;
            }
            if (outside(number, 1, ACTS)) return false;
            int bytes = 1 + 4 * ARGUMENTS[number] + (readsTape(number) ? 2 + tape.length : 0);
            if (blocksFor(waitingBytes + bytes) > BLOCKS - used) return false;
            appendRecord();
            waitingRecords++;
            return true;
        }

        private void appendRecord() {
            append(number);
            for (int k = 0; k < ARGUMENTS[number]; k++) {
                for (int shift = 24; shift >= 0; shift -= 8) append(args[k] >> shift);
            }
            if (!readsTape(number)) return;
            append(tape.length >> 8);
            append(tape.length);
            for (int k = 0; k < tape.length; k++) append(tape.bytes[k]);
        }

        private void append(int octet) {
            if (waitingBytes < waiting.length) waiting[waitingBytes++] = (byte) octet;
        }

        private static boolean readsTape(int act) {
            return act == BOOK || act == SHEET || act == TARIFF;
        }

        private static int blocksFor(int bytes) {
            return (bytes + LOAD - 1) / LOAD;
        }

        int writeAll() {
            int blocks = blocksFor(waitingBytes);
            for (int k = 0; k < blocks; k++) {
                makeBlock(k, used + k + 1, k == blocks - 1);
                if (!writes(used + k + 1)) {
                    down = true;
                    return LOST;
                }
            }
            used += blocks;
            waitingBytes = 0;
            waitingRecords = 0;
            return blocks;
        }

        private void makeBlock(int part, int block, boolean last) {
            int first = part * LOAD;
            int load = Math.min(LOAD, waitingBytes - first);
            Arrays.fill(fresh, (byte) 0);
            fresh[0] = (byte) (block >> 8);
            fresh[1] = (byte) block;
            fresh[2] = (byte) (last ? 1 : 0);
            fresh[3] = (byte) load;
            for (int k = 0; k < load; k++) fresh[4 + k] = waiting[first + k];
            int sum = sumOf(fresh, 0);
            for (int k = 0; k < 4; k++) fresh[SUMMED + k] = (byte) (sum >> 24 - 8 * k);
        }

        /** Writes the fresh block to its place; answers whether the power lasted. */
        private boolean writes(int block) {
            if (outside(block, 1, BLOCKS)) return false;
            boolean whole = blocksTillCut != 0;
            System.arraycopy(fresh, 0, disk, (block - 1) * BLOCK, whole ? BLOCK : tear);
            torn[block - 1] = !whole;
            if (blocksTillCut > 0) blocksTillCut--;
            return whole;
        }

        int setCut(int n, int bytes) {
            if (outside(n, NONE, 2000) || outside(bytes, 0, BLOCK - 1)) return OUTSIDE;
            blocksTillCut = n;
            tear = bytes;
            return 1;
        }

        private static int sumOf(byte[] bytes, int first) {
            int sum = 0;
            for (int k = first; k < first + SUMMED && k < bytes.length; k++) {
                int mixed = sum ^ bytes[k] & 255;
                sum = (mixed << 3 | mixed >>> 29) * 0x85EBCA77;
            }
            return sum;
        }

        static boolean hasByte(int block, int i) {
            return !outside(block, 1, BLOCKS) && !outside(i, 0, BLOCK - 1);
        }

        int byteAt(int block, int i) {
            return hasByte(block, i) ? disk[(block - 1) * BLOCK + i] & 255 : NONE;
        }

        int change(int block, int i, int mask) {
            if (hasByte(block, i)) disk[(block - 1) * BLOCK + i] ^= (byte) mask;
            return byteAt(block, i);
        }

        int firstBad() {
            for (int block = 1; block <= used; block++) {
                if (!isRight(block)) return block;
            }
            return NONE;
        }

        boolean isLast(int block) {
            return byteAt(block, 2) == 1;
        }

        private boolean isRight(int block) {
            if (outside(block, 1, BLOCKS) || torn[block - 1]) return false;
            int load = byteAt(block, 3);
            if (byteAt(block, 0) << 8 != block - byteAt(block, 1) || byteAt(block, 2) > 1) return false;
            if (isLast(block) ? outside(load, 1, LOAD) : load != LOAD) return false;
            int sum = 0;
            for (int k = SUMMED; k < BLOCK; k++) sum = sum << 8 | byteAt(block, k);
            return sum == sumOf(disk, (block - 1) * BLOCK);
        }

        /** Puts the log in order for the acts of the disk's records to be done again. */
        void beginAgain() {
            used = 0;
            for (int block = 1; block <= BLOCKS && isRight(block); block++) {
                if (isLast(block)) used = block;
            }
            blocksTillCut = NONE;
            again = true;
            doneAgain = 0;
            forgetGathered();
        }

        void gather(int block) {
            int load = byteAt(block, 3);
            for (int k = 0; k < load; k++) append(byteAt(block, 4 + k));
        }

        void forgetGathered() {
            waitingBytes = 0;
            waitingRecords = 0;
            readTo = 0;
        }

        int endAgain() {
            again = false;
            down = false;
            return doneAgain;
        }

        /** Stages the next of the gathered records; answers false when there is none, or what comes is no record. */
        boolean readsRecord(Tape into) {
            if (readTo >= waitingBytes) return false;
            number = waiting[readTo] & 255;
            if (outside(number, 1, ACTS)) return false;
            int end = readTo + 1 + 4 * ARGUMENTS[number];
            if (end > waitingBytes) return false;
            for (int k = 0; k < ARGUMENTS[number]; k++) args[k] = wordAt(readTo + 1 + 4 * k);
            if (number == WISH && outside(args[2], 0, 1)) return false;
            if (readsTape(number)) {
                if (end + 2 > waitingBytes) return false;
                int bytes = (waiting[end] & 255) << 8 | waiting[end + 1] & 255;
                end += 2;
                if (bytes > Tape.MOST || end + bytes > waitingBytes) return false;
                into.fill(waiting, end, bytes);
                end += bytes;
            }
            readTo = end;
            return true;
        }

        private int wordAt(int first) {
            int word = 0;
            for (int k = first; k < first + 4 && k < waiting.length; k++) word = word << 8 | waiting[k] & 255;
            return word;
        }
    }

    /** The clock, and what happened by it: events, notices of them, and the devices that tell of some. */
    static final class Chronicle {
        static final int EVENTS = 5000, NOTICES = 3000, DEVICES = 8, SCAN = 20;
        private static final int SORT = 0, PLACE = 1, TIME = 2, EVENT_FACTS = 3, NOTICE_FACTS = 4, SORTS = 9;

        private final Log log;
        int time;
        int events;
        private final int[][] event = new int[EVENT_FACTS][EVENTS];
        /** A trace is a chain of events, from an item's first one by way of the one behind each. */
        private final int[] firstOf = new int[Items.MOST];
        private final int[] lastOf = new int[Items.MOST];
        private final int[] behind = new int[EVENTS];
        int notices;
        private final int[][] notice = new int[NOTICE_FACTS][NOTICES];
        /** A bit for each sort that an account wishes. */
        private final int[] wishes = new int[Money.ACCOUNTS];
        private final int[] offset = new int[DEVICES];

        Chronicle(Log log) {
            this.log = log;
            clear();
        }

        void clear() {
            time = 0;
            events = 0;
            notices = 0;
            Arrays.fill(firstOf, NONE);
            Arrays.fill(lastOf, NONE);
            Arrays.fill(wishes, 0);
            Arrays.fill(offset, 0);
        }

        int today() {
            return time / DAY;
        }

        /** An item of an account came to a state. */
        void happen(int item, int account, int sort, int place) {
            keep(item, sort, place, time);
            if ((wishes[account] >> sort & 1) == 0) return;
            if (notices < NOTICES) {
                notice[0][notices] = account;
                notice[1][notices] = item;
                notice[2][notices] = sort;
                notice[3][notices] = time;
            }
            notices++;
        }

        private void keep(int item, int sort, int place, int when) {
            int e = events++;
            if (e >= EVENTS) return;
            event[SORT][e] = sort;
            event[PLACE][e] = place;
            event[TIME][e] = when;
            behind[e] = NONE;
            int before = lastOf[item];
            // Most events come in the order of their times; only a scan may belong further to the front.
            if (before != NONE && event[TIME][before] > when) {
                before = NONE;
                int k = firstOf[item];
                for (int steps = 0; steps < e && k != NONE && event[TIME][k] <= when; steps++) {
                    before = k;
                    k = behind[k];
                }
                behind[e] = k;
            }
            if (before == NONE) firstOf[item] = e;
            else behind[before] = e;
            if (behind[e] == NONE) lastOf[item] = e;
        }

        int tellEvent(int item, int i, int what) {
            if (outside(what, 0, EVENT_FACTS - 1)) return OUTSIDE;
            if (i < 0) return NONE;
            int e = firstOf[item];
            for (int k = 0; k < i && e != NONE; k++) e = behind[e];
            return e == NONE ? NONE : event[what][e];
        }

        int tellNotice(int i, int what) {
            if (outside(what, 0, NOTICE_FACTS - 1)) return OUTSIDE;
            return outside(i, 0, Math.min(notices, NOTICES) - 1) ? NONE : notice[what][i];
        }

        int setWish(int account, int sort, boolean on) {
            if (outside(sort, 0, SORTS - 1)) return OUTSIDE;
            if (!log.admits()) return ROOM;
            int before = wishes[account];
            wishes[account] = on ? before | 1 << sort : before & ~(1 << sort);
            return wishes[account] == before ? 0 : 1;
        }

        int setDevice(int device, int told) {
            if (outside(device, 0, DEVICES - 1)) return UNKNOWN;
            if (outside(told, 0, LAST_MINUTE)) return OUTSIDE;
            if (!log.admits()) return ROOM;
            offset[device] = time - told;
            return offset[device];
        }

        int scanBy(int device, int item, int kind, int told) {
            if (outside(device, 0, DEVICES - 1)) return UNKNOWN;
            if (outside(kind, 0, 9) || outside(told, 0, LAST_MINUTE)) return OUTSIDE;
            int when = told + offset[device];
            if (outside(when, 0, time)) return OUTSIDE;
            if (!log.admits()) return ROOM;
            keep(item, SCAN + kind, NONE, when);
            return 1;
        }
    }

    /** Places, streets, ranges of houses, points, and the orders about points. */
    static final class Book {
        static final int PLACES = 12, STREETS = 30, RANGES = 60, POINTS = 120, ORDERS = 60, LAST_DAY = 100000;
        private static final String SHAPES = "P#,@;S#,@,#,#,#;R#,@,#,#,#;H#,@,#;";
        private static final int STREET = 0, HOUSE = 1;
        private static final int X = 0, Y = 1, WAY = 2, PLACE = 3;
        private static final int SIDE = 1, LOW = 2, HIGH = 3;
        private static final int POINT = 0, PERSON = 1, TO = 2, UNTIL = 3;

        private final Log log;
        private final Chronicle chronicle;
        int places;
        private final int[] code = new int[PLACES];
        int streets;
        private final int[][] street = new int[4][STREETS];
        private final long[] streetName = new long[STREETS];
        int ranges;
        private final int[][] range = new int[4][RANGES];
        int points;
        private final int[][] pointFact = new int[2][POINTS];
        int orders;
        /** A hold has NONE as the point that it forwards to. */
        private final int[][] order = new int[4][ORDERS];
        /** In which asking a point was asked last. */
        private final int[] askedIn = new int[POINTS];
        private int asking;
        /** THE LAST POINT of the latest asking. */
        int lastAsked;

        Book(Log log, Chronicle chronicle) {
            this.log = log;
            this.chronicle = chronicle;
        }

        void clear() {
            keepFirst(0, 0, 0, 0);
            orders = 0;
        }

        private void keepFirst(int keptPlaces, int keptStreets, int keptRanges, int keptPoints) {
            places = keptPlaces;
            streets = keptStreets;
            ranges = keptRanges;
            points = keptPoints;
        }

        int readText(Tape text) {
            int hadPlaces = places, hadStreets = streets, hadRanges = ranges, hadPoints = points;
            int fault = NONE;
            int entries = 0;
            text.at = 0;
            while (fault == NONE && entries < Tape.MOST && (entries == 0 || text.hasMore())) {
                int first = text.at;
                int letter = text.readsEntry(SHAPES);
                if (letter == NONE) fault = text.at;
                else if (!adds(letter, text)) fault = first;
                entries++;
            }
            if (fault == NONE && log.admits()) return entries;
            keepFirst(hadPlaces, hadStreets, hadRanges, hadPoints);
            return fault == NONE ? ROOM : FAULT - fault;
        }

        private boolean adds(int letter, Tape text) {
            if (letter == 'P') return addsPlace(text.numbers[0]);
            int place = placeOf(text.numbers[0]);
            if (place == NONE) return false;
            if (letter == 'S') return addsStreet(place, text);
            int s = streetOf(place, text.name);
            if (s == NONE) return false;
            return letter == 'R' ? addsRange(s, text) : addsPoint(s, text.numbers[1]);
        }

        private boolean addsPlace(int newCode) {
            if (outside(newCode, 1, 99999) || placeOf(newCode) != NONE || places >= PLACES) return false;
            code[places++] = newCode;
            return true;
        }

        private boolean addsStreet(int place, Tape text) {
            int x = text.numbers[1], y = text.numbers[2], way = text.numbers[3];
            if (streetOf(place, text.name) != NONE || streets >= STREETS) return false;
            if (outside(x, 0, 999) || outside(y, 0, 999) || outside(way, 0, 3)) return false;
            street[PLACE][streets] = place;
            street[X][streets] = x;
            street[Y][streets] = y;
            street[WAY][streets] = way;
            streetName[streets++] = text.name;
            return true;
        }

        private boolean addsRange(int s, Tape text) {
            int side = text.numbers[1], low = text.numbers[2], high = text.numbers[3];
            if (outside(side, 0, 2) || outside(low, 1, 999) || outside(high, low, 999) || ranges >= RANGES) return false;
            for (int r = 0; r < ranges; r++) {
                if (range[STREET][r] == s && sharesHouse(r, side, low, high)) return false;
            }
            range[STREET][ranges] = s;
            range[SIDE][ranges] = side;
            range[LOW][ranges] = low;
            range[HIGH][ranges++] = high;
            return true;
        }

        private boolean sharesHouse(int r, int side, int low, int high) {
            int first = Math.max(low, range[LOW][r]);
            int last = Math.min(high, range[HIGH][r]);
            // Of two houses side by side one is odd and one even: no more than two need be looked at.
            for (int house = first; house <= last && house <= first + 1; house++) {
                if (isOnSide(house, side) && isOnSide(house, range[SIDE][r])) return true;
            }
            return false;
        }

        private static boolean isOnSide(int house, int side) {
            return side == 0 || house % 2 == 2 - side;
        }

        private boolean addsPoint(int s, int house) {
            if (!hasHouse(s, house) || pointOf(s, house) != NONE || points >= POINTS) return false;
            pointFact[STREET][points] = s;
            pointFact[HOUSE][points++] = house;
            return true;
        }

        private boolean hasHouse(int s, int house) {
            for (int r = 0; r < ranges; r++) {
                boolean inRange = range[STREET][r] == s && !outside(house, range[LOW][r], range[HIGH][r]);
                if (inRange && isOnSide(house, range[SIDE][r])) return true;
            }
            return false;
        }

        int placeOf(int sought) {
            for (int p = 0; p < places; p++) {
                if (code[p] == sought) return p;
            }
            return NONE;
        }

        private int streetOf(int place, long name) {
            for (int s = 0; s < streets; s++) {
                if (street[PLACE][s] == place && streetName[s] == name) return s;
            }
            return NONE;
        }

        int pointOf(int s, int house) {
            for (int p = 0; p < points; p++) {
                if (pointFact[STREET][p] == s && pointFact[HOUSE][p] == house) return p;
            }
            return NONE;
        }

        boolean isStreetOf(int s, int place) {
            return street[PLACE][s] == place;
        }

        /** Puts the letters of a street's name (0 is A) into a row, as many as it has room for; answers how many. */
        int spell(int s, int[] letters) {
            int size = 0;
            for (long rest = streetName[s]; rest > 0 && size < letters.length; rest /= 27) size++;
            long rest = streetName[s];
            for (int k = size - 1; k >= 0; k--) {
                letters[k] = (int) (rest % 27) - 1;
                rest /= 27;
            }
            return size;
        }

        boolean hasPlace(int place) {
            return !outside(place, 0, places - 1);
        }

        boolean hasPoint(int point) {
            return !outside(point, 0, points - 1);
        }

        int tellPoint(int point, int what) {
            switch (what) {
                case 0: return pointFact[STREET][point];
                case 1: return pointFact[HOUSE][point];
                case 2: return xOf(point);
                case 3: return yOf(point);
                case 4: return placeOfPoint(point);
                default: return OUTSIDE;
            }
        }

        int placeOfPoint(int point) {
            return street[PLACE][pointFact[STREET][point]];
        }

        int xOf(int point) {
            int s = pointFact[STREET][point], house = pointFact[HOUSE][point], way = street[WAY][s];
            return street[X][s] + (way == 0 ? house : way == 2 ? -house : 0);
        }

        int yOf(int point) {
            int s = pointFact[STREET][point], house = pointFact[HOUSE][point], way = street[WAY][s];
            return street[Y][s] + (way == 1 ? house : way == 3 ? -house : 0);
        }

        int tellForwarding(int point, int person, int to, int until) {
            if (!hasPoint(to)) return UNKNOWN;
            return addOrder(point, person, to, until);
        }

        int tellHold(int point, int person, int until) {
            return addOrder(point, person, NONE, until);
        }

        private int addOrder(int point, int person, int to, int until) {
            if (!hasPoint(point)) return UNKNOWN;
            if (outside(person, 0, 99) || outside(until, chronicle.today() + 1, LAST_DAY) || point == to) return OUTSIDE;
            if (orders >= ORDERS || !log.admits()) return ROOM;
            order[POINT][orders] = point;
            order[PERSON][orders] = person;
            order[TO][orders] = to;
            order[UNTIL][orders] = until;
            return orders++;
        }

        int askedGoal(int point, int person) {
            if (!hasPoint(point)) return UNKNOWN;
            return outside(person, 0, 99) ? OUTSIDE : goalFor(point, person);
        }

        /** EFFECTIVE for a point and a person today. */
        int goalFor(int point, int person) {
            asking++;
            lastAsked = point;
            for (int k = 0; k < POINTS; k++) {
                askedIn[lastAsked] = asking;
                int o = orderFor(lastAsked, person);
                if (o == NONE) return lastAsked;
                int to = order[TO][o];
                if (to == NONE) return HELD;
                if (askedIn[to] == asking) return RING;
                lastAsked = to;
            }
            return RING;
        }

        private int orderFor(int point, int person) {
            int today = chronicle.today();
            for (int o = orders - 1; o >= 0; o--) {
                boolean forHim = order[PERSON][o] == person || order[PERSON][o] == 0;
                if (order[POINT][o] == point && forHim && today < order[UNTIL][o]) return o;
            }
            return NONE;
        }
    }

    /** The latest grey sheet: the boxes of its dark parts, their lines and signs, and what these tell. */
    static final class Sheet {
        private static final int PARTS = 200, LINES = 10, NEAR_ENOUGH = 3, MOST_CHANGES = 2;
        private static final int LEFT = 0, TOP = 1, WIDTH = 2, HEIGHT = 3, CELLS = 4, DIGIT = 5, LETTER = 6, WORD = 7, BOX_FACTS = 8;
        private static final int BOXES = 0, LINE_TOP = 1, LINE_LEFT = 2, LINE_FACTS = 3, FIRST = 3;
        private static final int LIGHT = 0, DARK = 1, TAKEN = 2;
        private static final int DIGITS = 10;
        /** The fifteen cells of each symbol as bits, the left upper one first; 0 to 9, then A to Z. */
        private static final int[] SYMBOLS = {
            075557, 026227, 071747, 071717, 055711, 074717, 074757, 071122, 075757, 075717, 025755, 065656,
            034443, 065556, 074647, 074644, 034553, 055755, 072227, 011152, 055655, 044447, 057755, 075555,
            025552, 065644, 025563, 065655, 034216, 072222, 055557, 055552, 055775, 055255, 055222, 071247};

        private final Log log;
        private final Book book;
        /** Whether there was a sheet. */
        boolean given;
        /** The point that the latest reading told. */
        int point;
        private int width;
        private int height;
        private final byte[] shade = new byte[Tape.MOST];
        private final int[] queue = new int[Tape.MOST];
        private int queued;
        private int parts;
        private final int[][] part = new int[4][PARTS];
        private final int[] lineOfPart = new int[PARTS];
        private final int[] order = new int[PARTS];
        private int lines;
        private final int[][] line = new int[LINE_FACTS + 1][LINES];
        private final int[][] box = new int[BOX_FACTS][PARTS];
        private final int[] name = new int[Tape.LETTERS];
        private final int[] changeRow = new int[Tape.LETTERS + 1];

        Sheet(Log log, Book book) {
            this.log = log;
            this.book = book;
            clear();
        }

        void clear() {
            given = false;
            point = NONE;
            lines = 0;
        }

        int show(Tape grey, int w) {
            if (outside(w, 8, 128) || grey.length == 0 || grey.length % w != 0) return OUTSIDE;
            if (!log.admits()) return ROOM;
            given = true;
            width = w;
            height = grey.length / w;
            darken(grey);
            findParts();
            joinLines();
            orderParts();
            keepLines();
            return reading();
        }

        private void darken(Tape grey) {
            int least = 255, greatest = 0;
            for (int k = 0; k < grey.length; k++) {
                least = Math.min(least, grey.byteAt(k));
                greatest = Math.max(greatest, grey.byteAt(k));
            }
            boolean clear = greatest - least >= 32;
            for (int k = 0; k < grey.length; k++) {
                shade[k] = (byte) (clear && 2 * grey.byteAt(k) < least + greatest ? DARK : LIGHT);
            }
        }

        private void findParts() {
            parts = 0;
            for (int k = 0; k < width * height && parts < PARTS; k++) {
                if (shade[k] == DARK) takePart(k);
            }
        }

        private void takePart(int first) {
            int left = width, right = 0, top = height, bottom = 0;
            queue[0] = first;
            queued = 1;
            shade[first] = TAKEN;
            for (int k = 0; k < queued && k < queue.length; k++) {
                int x = queue[k] % width, y = queue[k] / width;
                left = Math.min(left, x);
                right = Math.max(right, x);
                top = Math.min(top, y);
                bottom = Math.max(bottom, y);
                takeNeighbours(x, y);
            }
            if (queued < 4) return;
            part[LEFT][parts] = left;
            part[TOP][parts] = top;
            part[WIDTH][parts] = right - left + 1;
            part[HEIGHT][parts++] = bottom - top + 1;
        }

        private void takeNeighbours(int x, int y) {
            for (int ny = Math.max(0, y - 1); ny <= y + 1 && ny < height; ny++) {
                for (int nx = Math.max(0, x - 1); nx <= x + 1 && nx < width; nx++) {
                    int k = ny * width + nx;
                    if (shade[k] == DARK) {
                        shade[k] = TAKEN;
                        queue[queued++] = k;
                    }
                }
            }
        }

        private void joinLines() {
            int found = 0;
            Arrays.fill(lineOfPart, NONE);
            for (int p = 0; p < parts; p++) {
                if (lineOfPart[p] == NONE) joinLine(p, found++);
            }
        }

        private void joinLine(int first, int l) {
            queue[0] = first;
            queued = 1;
            lineOfPart[first] = l;
            for (int k = 0; k < queued && k < PARTS; k++) {
                for (int other = 0; other < parts; other++) {
                    if (lineOfPart[other] == NONE && areNear(queue[k], other)) {
                        lineOfPart[other] = l;
                        queue[queued++] = other;
                    }
                }
            }
        }

        private boolean areNear(int p, int other) {
            int top = Math.max(part[TOP][p], part[TOP][other]);
            int end = Math.min(part[TOP][p] + part[HEIGHT][p], part[TOP][other] + part[HEIGHT][other]);
            return 2 * (end - top) >= Math.min(part[HEIGHT][p], part[HEIGHT][other]);
        }

        /** Sorts the parts by their lines, and in a line from left to right. */
        private void orderParts() {
            for (int p = 0; p < parts; p++) {
                int k = p;
                for (; k > 0 && goesBefore(p, order[k - 1]); k--) order[k] = order[k - 1];
                order[k] = p;
            }
        }

        private boolean goesBefore(int p, int other) {
            // Parts are found by their tops, and no two lines have one top: so lines are found by their highest tops.
            if (lineOfPart[p] != lineOfPart[other]) return lineOfPart[p] < lineOfPart[other];
            int byLeft = part[LEFT][p] - part[LEFT][other];
            int byTop = part[TOP][p] - part[TOP][other];
            return byLeft != 0 ? byLeft < 0 : byTop != 0 ? byTop < 0 : p < other;
        }

        private void keepLines() {
            lines = 0;
            for (int k = 0; k < parts; k++) {
                int p = order[k];
                boolean begins = k == 0 || lineOfPart[p] != lineOfPart[order[k - 1]];
                if (begins && lines == LINES) return;
                if (begins) beginLine(k, p);
                int l = lines - 1;
                line[BOXES][l]++;
                line[LINE_TOP][l] = Math.min(line[LINE_TOP][l], part[TOP][p]);
                line[LINE_LEFT][l] = Math.min(line[LINE_LEFT][l], part[LEFT][p]);
                keepBox(k, p, begins);
            }
        }

        private void beginLine(int k, int p) {
            line[FIRST][lines] = k;
            line[BOXES][lines] = 0;
            line[LINE_TOP][lines] = part[TOP][p];
            line[LINE_LEFT][lines] = part[LEFT][p];
            lines++;
        }

        private void keepBox(int k, int p, boolean beginsLine) {
            for (int fact = LEFT; fact <= HEIGHT; fact++) box[fact][k] = part[fact][p];
            box[CELLS][k] = cellsOf(p);
            box[DIGIT][k] = nearest(box[CELLS][k], 0, DIGITS);
            box[LETTER][k] = nearest(box[CELLS][k], DIGITS, SYMBOLS.length);
            boolean beginsWord = beginsLine;
            if (!beginsWord && k > 0) {
                int gap = box[LEFT][k] - box[LEFT][k - 1] - box[WIDTH][k - 1];
                beginsWord = 5 * gap >= 2 * box[HEIGHT][k - 1];
            }
            box[WORD][k] = beginsWord ? 1 : 0;
        }

        private int cellsOf(int p) {
            int cells = 0;
            for (int r = 0; r < 5; r++) {
                int y = part[TOP][p] + r * part[HEIGHT][p] / 5;
                int yEnd = part[TOP][p] + (r + 1) * part[HEIGHT][p] / 5;
                for (int c = 0; c < 3; c++) {
                    int x = part[LEFT][p] + c * part[WIDTH][p] / 3;
                    int xEnd = part[LEFT][p] + (c + 1) * part[WIDTH][p] / 3;
                    cells = cells << 1 | (isInk(x, xEnd, y, yEnd) ? 1 : 0);
                }
            }
            return cells;
        }

        private boolean isInk(int x, int xEnd, int y, int yEnd) {
            int dark = 0;
            for (int py = y; py < yEnd; py++) {
                for (int px = x; px < xEnd; px++) {
                    if (shade[py * width + px] != LIGHT) dark++;
                }
            }
            int all = (xEnd - x) * (yEnd - y);
            return all > 0 && 2 * dark >= all;
        }

        /** The one symbol of least distance, counted from the first of these; NONE when it is too far, or not the one. */
        private static int nearest(int cells, int first, int end) {
            int least = NEAR_ENOUGH + 1;
            int found = NONE;
            for (int s = first; s < end && s < SYMBOLS.length; s++) {
                int distance = Integer.bitCount(cells ^ SYMBOLS[s]);
                if (distance < least) {
                    least = distance;
                    found = s - first;
                } else if (distance == least) {
                    found = NONE;
                }
            }
            return found;
        }

        private int reading() {
            point = NONE;
            if (lines < 2) return 1;
            int first = line[FIRST][lines - 1], end = first + line[BOXES][lines - 1];
            int code = numberOf(first, wordEnd(first, end), 5);
            if (code == NONE) return 2;
            int place = book.placeOf(code);
            if (place == NONE) return 3;
            first = line[FIRST][lines - 2];
            end = first + line[BOXES][lines - 2];
            int lastWord = lastWordOf(first, end);
            int house = lastWord > first ? numberOf(lastWord, end, 3) : NONE;
            if (house == NONE) return 4;
            int street = streetLike(place, first, lastWord);
            if (street == NONE) return 5;
            point = book.pointOf(street, house);
            return point == NONE ? 6 : 0;
        }

        private int wordEnd(int first, int end) {
            int k = first + 1;
            while (k < end && box[WORD][k] == 0) k++;
            return k;
        }

        private int lastWordOf(int first, int end) {
            int k = end - 1;
            while (k > first && box[WORD][k] == 0) k--;
            return k;
        }

        /** The number that the signs from first to before end are; NONE when they are too many or not all digits. */
        private int numberOf(int first, int end, int most) {
            if (outside(end - first, 1, most)) return NONE;
            int number = 0;
            for (int k = first; k < end; k++) {
                if (box[DIGIT][k] == NONE) return NONE;
                number = number * 10 + box[DIGIT][k];
            }
            return number;
        }

        private int streetLike(int place, int first, int end) {
            int least = MOST_CHANGES + 1;
            int found = NONE;
            for (int s = 0; s < book.streets; s++) {
                if (!book.isStreetOf(s, place)) continue;
                int changes = changesTo(s, first, end);
                if (changes < least) {
                    least = changes;
                    found = s;
                } else if (changes == least) {
                    found = NONE;
                }
            }
            return found;
        }

        private int changesTo(int street, int first, int end) {
            int size = book.spell(street, name);
            for (int j = 0; j <= size; j++) changeRow[j] = j;
            for (int k = first; k < end; k++) {
                int aslant = changeRow[0];
                changeRow[0]++;
                for (int j = 1; j <= size; j++) {
                    int replaced = aslant + (box[LETTER][k] == name[j - 1] ? 0 : 1);
                    aslant = changeRow[j];
                    changeRow[j] = Math.min(replaced, 1 + Math.min(changeRow[j], changeRow[j - 1]));
                }
            }
            return changeRow[size];
        }

        int tellLine(int i, int what) {
            if (outside(what, 0, LINE_FACTS - 1)) return OUTSIDE;
            return outside(i, 0, lines - 1) ? NONE : line[what][i];
        }

        int tellSign(int i, int k, int what) {
            if (outside(what, 0, BOX_FACTS - 1)) return OUTSIDE;
            if (outside(i, 0, lines - 1) || outside(k, 0, line[BOXES][i] - 1)) return NONE;
            return box[what][line[FIRST][i] + k];
        }
    }

    /** A row of fifteen symbols of the field of sixteen, four of which let it mend itself. */
    static final class Bars {
        static final int SYMBOLS = 15;
        private static final int TOLD = 11;
        private static final int[] POWERS = {1, 2, 4, 8, 3, 6, 12, 11, 5, 10, 7, 14, 15, 13, 9};
        /** Of what power of 2 a number is; 0 is of none, so what stands for it is never asked for. */
        private static final int[] LOGS = {0, 0, 1, 4, 2, 8, 5, 10, 3, 14, 9, 7, 6, 13, 11, 12};
        /** What (x - 2) (x - 4) (x - 8) (x - 3) is, without its x^4. */
        private static final int[] DIVISOR = {13, 12, 8, 7};

        final int[] row = new int[SYMBOLS];
        /** In how many symbols the row that the latest scan found differed. */
        int mended = NONE;

        private static int times(int a, int b) {
            return a == 0 || b == 0 ? 0 : POWERS[(LOGS[a & 15] + LOGS[b & 15]) % SYMBOLS];
        }

        void set(int k, int symbols, int number) {
            for (int s = symbols - 1; s >= 0 && k + s < row.length; s--) {
                row[k + s] = number & 15;
                number >>= 4;
            }
        }

        /** Puts behind the eleven symbols that are told the rest of their division. */
        void close() {
            for (int k = TOLD; k < SYMBOLS; k++) row[k] = 0;
            for (int k = 0; k < TOLD; k++) {
                int factor = row[k] ^ row[TOLD];
                for (int d = 0; d < DIVISOR.length; d++) {
                    int next = d + 1 < DIVISOR.length ? row[TOLD + d + 1] : 0;
                    row[TOLD + d] = next ^ times(factor, DIVISOR[d]);
                }
            }
        }

        void takeFrom(Tape tape) {
            for (int k = 0; k < SYMBOLS; k++) row[k] = tape.byteAt(k) & 15;
        }

        int number() {
            return row[0] << 8 | row[1] << 4 | row[2];
        }

        /** Mends the row, in two symbols at most; answers whether it is one of bars now. */
        boolean mends() {
            int sums = 0;
            for (int k = 0; k < SYMBOLS; k++) sums ^= sumsOf(k, row[k]);
            mended = sums == 0 ? 0 : mendsOne(sums) ? 1 : mendsTwo(sums) ? 2 : NONE;
            return mended != NONE;
        }

        /** What a symbol at a place gives to the four sums, four bits each, that for a = 2 first. */
        private static int sumsOf(int place, int symbol) {
            int sums = 0;
            for (int a = 1; a <= 4; a++) sums = sums << 4 | times(symbol, POWERS[a * (SYMBOLS - 1 - place) % SYMBOLS]);
            return sums;
        }

        private boolean mendsOne(int sums) {
            int first = sums >> 12 & 15, second = sums >> 8 & 15;
            if (first == 0 || second == 0) return false;
            int power = Math.floorMod(LOGS[second] - LOGS[first], SYMBOLS);
            int symbol = POWERS[Math.floorMod(LOGS[first] - power, SYMBOLS)];
            int place = SYMBOLS - 1 - power;
            if (sumsOf(place, symbol) != sums) return false;
            row[place] ^= symbol;
            return true;
        }

        private boolean mendsTwo(int sums) {
            for (int place = 0; place < SYMBOLS; place++) {
                for (int symbol = 1; symbol < 16; symbol++) {
                    if (mendsOne(sums ^ sumsOf(place, symbol))) {
                        row[place] ^= symbol;
                        return true;
                    }
                }
            }
            return false;
        }
    }

    /** Accounts, their bookings, the tariff and money orders. */
    static final class Money {
        static final int POST = 0, CASH = 1, CLAIMS = 2, FOR_ORDERS = 3, OWN = 4, CUSTOMERS = 30, ACCOUNTS = OWN + CUSTOMERS;
        static final int ORDER_FACTS = 5;
        private static final int LEDGER = 2000, ORDERS = 60, ROWS = 40, ORDER_DAYS = 30;
        private static final String SHAPES = "K#,#=#;V#=#;";
        private static final int BOOKING_FACTS = 4;
        private static final int CONDITION = 0, ACCOUNT = 1, PERSON = 2, CENTS = 3, TILL = 4;
        private static final int OPEN = 0, PAID = 1, GIVEN_BACK = 2;
        private static final int KIND = 0, LIMIT = 1, PRICE = 2, SERVICE = NONE;

        private final Log log;
        private final Chronicle chronicle;
        private final Book book;
        int customers;
        private final int[] home = new int[ACCOUNTS];
        final long[] balance = new long[ACCOUNTS];
        int bookings;
        private final int[][] booking = new int[BOOKING_FACTS][LEDGER];
        int orders;
        private int openOrders;
        final int[][] order = new int[ORDER_FACTS][ORDERS];
        private int rows;
        /** A row of the tariff for a service has SERVICE as its kind, and the service as its limit. */
        private final int[][] row = new int[3][ROWS];
        private int newRows;
        private final int[][] newRow = new int[3][ROWS];

        Money(Log log, Chronicle chronicle, Book book) {
            this.log = log;
            this.chronicle = chronicle;
            this.book = book;
        }

        void clear() {
            customers = 0;
            bookings = 0;
            orders = 0;
            openOrders = 0;
            rows = 0;
            Arrays.fill(balance, 0);
        }

        boolean has(int account) {
            return !outside(account, 0, OWN + customers - 1);
        }

        boolean isCustomer(int account) {
            return account >= OWN && has(account);
        }

        int homeOf(int account) {
            return home[account];
        }

        int openAccount(int point) {
            if (!book.hasPoint(point)) return UNKNOWN;
            if (customers >= CUSTOMERS || !log.admits()) return ROOM;
            int account = OWN + customers++;
            home[account] = point;
            return account;
        }

        int payIn(int account, int cents) {
            if (!isCustomer(account)) return UNKNOWN;
            if (outside(cents, 1, 1000000)) return OUTSIDE;
            if (!hasRoomFor(1) || !log.admits()) return ROOM;
            transfer(CASH, account, cents, NONE);
            return (int) balance[account];
        }

        /** Whether so many bookings more leave one free for each open money order. */
        boolean hasRoomFor(int more) {
            return bookings + more + openOrders <= LEDGER;
        }

        void transfer(int from, int to, int cents, int item) {
            if (cents == 0 || bookings >= LEDGER) return;
            balance[from] -= cents;
            balance[to] += cents;
            booking[0][bookings] = from;
            booking[1][bookings] = to;
            booking[2][bookings] = cents;
            booking[3][bookings++] = item;
        }

        int tellBooking(int i, int what) {
            if (outside(what, 0, BOOKING_FACTS - 1)) return OUTSIDE;
            return outside(i, 0, bookings - 1) ? NONE : booking[what][i];
        }

        int readTariff(Tape text) {
            int fault = NONE;
            newRows = 0;
            text.at = 0;
            for (int k = 0; k < Tape.MOST && fault == NONE && (k == 0 || text.hasMore()); k++) {
                int first = text.at;
                int letter = text.readsEntry(SHAPES);
                if (letter == NONE) fault = text.at;
                else if (!adds(letter, text)) fault = first;
            }
            if (fault != NONE) return FAULT - fault;
            if (!log.admits()) return ROOM;
            rows = newRows;
            for (int fact = KIND; fact <= PRICE; fact++) System.arraycopy(newRow[fact], 0, row[fact], 0, rows);
            return rows;
        }

        private boolean adds(int letter, Tape text) {
            if (letter == 'V') return addsService(text.numbers[0], text.numbers[1]);
            int kind = text.numbers[0], limit = text.numbers[1];
            if (outside(kind, 0, 3) || outside(limit, 1, 30000)) return false;
            for (int r = 0; r < newRows; r++) {
                if (newRow[KIND][r] == kind && newRow[LIMIT][r] >= limit) return false;
            }
            return addsRow(kind, limit, text.numbers[2]);
        }

        private boolean addsService(int service, int cents) {
            if (service != 1 && service != 2 && service != 4) return false;
            for (int r = 0; r < newRows; r++) {
                if (newRow[KIND][r] == SERVICE && newRow[LIMIT][r] == service) return false;
            }
            return addsRow(SERVICE, service, cents);
        }

        private boolean addsRow(int kind, int limit, int cents) {
            if (outside(cents, 0, 9999) || newRows >= ROWS) return false;
            newRow[KIND][newRows] = kind;
            newRow[LIMIT][newRows] = limit;
            newRow[PRICE][newRows++] = cents;
            return true;
        }

        /** The PRICE by the tariff; NONE. */
        int priceFor(int kind, int weight, int services) {
            int price = NONE;
            int extra = 0;
            for (int r = 0; r < rows; r++) {
                if (row[KIND][r] == SERVICE) {
                    if ((row[LIMIT][r] & services) != 0) extra += row[PRICE][r];
                } else if (row[KIND][r] == kind && price == NONE && weight <= row[LIMIT][r]) {
                    price = row[PRICE][r];
                }
            }
            return price == NONE ? NONE : price + extra;
        }

        boolean hasOrder(int o) {
            return !outside(o, 0, orders - 1);
        }

        int makeOrder(int account, int person, int cents) {
            if (!isCustomer(account)) return UNKNOWN;
            if (outside(person, 1, 99) || outside(cents, 1, 100000)) return OUTSIDE;
            if (balance[account] < cents) return POOR;
            // Two: this booking, and the one that is kept free for the order.
            if (orders >= ORDERS || !hasRoomFor(2) || !log.admits()) return ROOM;
            transfer(account, FOR_ORDERS, cents, NONE);
            order[CONDITION][orders] = OPEN;
            order[ACCOUNT][orders] = account;
            order[PERSON][orders] = person;
            order[CENTS][orders] = cents;
            order[TILL][orders] = chronicle.today() + ORDER_DAYS;
            openOrders++;
            return orders++;
        }

        int payOrder(int o, int person, int proof) {
            if (!hasOrder(o)) return UNKNOWN;
            if (outside(person, 1, 99) || outside(proof, 0, 9999)) return OUTSIDE;
            if (order[CONDITION][o] != OPEN) return STATE;
            if (order[PERSON][o] != person) return NOT_HIM;
            if (proof == 0) return NO_PROOF;
            if (!log.admits()) return ROOM;
            settle(o, PAID, CASH);
            return order[CENTS][o];
        }

        void giveBack(int today) {
            for (int o = 0; o < orders; o++) {
                if (order[CONDITION][o] == OPEN && order[TILL][o] <= today) settle(o, GIVEN_BACK, order[ACCOUNT][o]);
            }
        }

        private void settle(int o, int condition, int to) {
            transfer(FOR_ORDERS, to, order[CENTS][o], NONE);
            order[CONDITION][o] = condition;
            openOrders--;
        }

        int faults() {
            long all = 0;
            int wrong = 0;
            for (int account = 0; account < OWN + customers; account++) {
                all += balance[account];
                if (account >= OWN && balance[account] < 0) wrong++;
            }
            return all == 0 ? wrong : wrong + 1;
        }
    }

    /** What is posted: what is told of it, its address and goal, its delivery at doors and posts. */
    static final class Items {
        static final int MOST = 300;
        static final int IS_TOLD = 0, IS_IN = 1, IS_BAGGED = 2, IS_SORTED = 3, IS_OUT = 4, IS_DELIVERED = 5, IS_HELD = 6, IS_DEAD = 7, IS_LOST = 8;
        static final int CONDITION = 0, KIND = 1, WEIGHT = 2, SERVICES = 3, ACCOUNT = 4, PERSON = 5, CENTS = 6, ADDRESS = 7, PLACE = 8;
        static final int BAG = 9, BACK = 10, FRANKED = 11, GOAL = 12, DOUBT = 13, TILL = 14, LOCKER = 15, DUE = 16;
        /** These are told to nobody: how many came IN before, whether there was a claim, what clerks told (as bits) what. */
        static final int CAME_IN = 17, CLAIMED = 18, CLERKS = 19, FIRST_TOLD = 20, SECOND_TOLD = 21, FACTS = 22;
        static final int REGISTERED = 1, ON_DELIVERY = 2, BY_HAND = 4;
        private static final int NO_DOUBT = 0, DOUBTFUL = 1, UNREADABLE = 2;
        private static final int UNFRANKED = 100, MOST_PAID = 5000, HELD_DAYS = 7;

        private final Log log;
        private final Chronicle chronicle;
        private final Book book;
        private final Sheet sheet;
        private final Money money;
        int count;
        private int arrivals;
        final int[][] fact = new int[FACTS][MOST];
        /** How often each item was found when the house is looked through. */
        final int[] seen = new int[MOST];

        Items(Log log, Chronicle chronicle, Book book, Sheet sheet, Money money) {
            this.log = log;
            this.chronicle = chronicle;
            this.book = book;
            this.sheet = sheet;
            this.money = money;
        }

        void clear() {
            count = 0;
            arrivals = 0;
        }

        boolean has(int item) {
            return !outside(item, 0, count - 1);
        }

        boolean is(int item, int condition) {
            return fact[CONDITION][item] == condition;
        }

        private boolean serves(int item, int service) {
            return (fact[SERVICES][item] & service) != 0;
        }

        int tell(int kind, int weight, int services, int account, int person, int cents) {
            if (!money.isCustomer(account)) return UNKNOWN;
            if (outside(kind, 0, 3) || outside(weight, 1, 30000) || outside(services, 0, 7) || outside(person, 1, 99)) return OUTSIDE;
            boolean onDelivery = (services & ON_DELIVERY) != 0;
            if (onDelivery ? outside(cents, 1, 100000) : cents != 0) return OUTSIDE;
            if (count >= MOST || !log.admits()) return ROOM;
            int item = count++;
            for (int what = 0; what < FACTS; what++) fact[what][item] = NONE;
            fact[KIND][item] = kind;
            fact[WEIGHT][item] = weight;
            fact[SERVICES][item] = services;
            fact[ACCOUNT][item] = account;
            fact[PERSON][item] = person;
            fact[CENTS][item] = cents;
            fact[BACK][item] = 0;
            fact[DOUBT][item] = NO_DOUBT;
            fact[CLAIMED][item] = 0;
            fact[CLERKS][item] = 0;
            come(item, IS_TOLD);
            return item;
        }

        /** Brings an item to a state; it leaves what belongs to another state alone. */
        void come(int item, int condition) {
            fact[CONDITION][item] = condition;
            if (condition == IS_IN) fact[CAME_IN][item] = arrivals++;
            if (condition != IS_BAGGED) fact[BAG][item] = NONE;
            if (condition != IS_HELD) {
                fact[TILL][item] = NONE;
                fact[LOCKER][item] = NONE;
            }
            chronicle.happen(item, fact[ACCOUNT][item], condition, fact[PLACE][item]);
        }

        void comeInAt(int item, int place) {
            fact[PLACE][item] = place;
            come(item, IS_IN);
        }

        void keepFor(int item, int days) {
            come(item, IS_HELD);
            fact[TILL][item] = chronicle.today() + days;
        }

        int goBack(int item) {
            boolean already = fact[BACK][item] == 1;
            fact[BACK][item] = 1;
            come(item, already ? IS_DEAD : IS_IN);
            return fact[CONDITION][item];
        }

        private boolean isAtHand(int item) {
            return is(item, IS_TOLD) || is(item, IS_IN);
        }

        boolean isEnded(int item) {
            return is(item, IS_DELIVERED) || is(item, IS_DEAD) || is(item, IS_LOST);
        }

        boolean isHeldTill(int item, int today) {
            return is(item, IS_HELD) && fact[TILL][item] <= today;
        }

        private boolean isHeldAtPost(int item) {
            return is(item, IS_HELD) && fact[LOCKER][item] == NONE;
        }

        int setAddress(int item, int point) {
            if (!has(item) || !book.hasPoint(point)) return UNKNOWN;
            if (fact[ADDRESS][item] != NONE || !isAtHand(item)) return STATE;
            if (!log.admits()) return ROOM;
            fixAddress(item, point);
            return 1;
        }

        private void fixAddress(int item, int point) {
            fact[ADDRESS][item] = point;
            fact[DOUBT][item] = NO_DOUBT;
        }

        int takeReading(int item) {
            if (!has(item)) return UNKNOWN;
            if (!sheet.given || fact[ADDRESS][item] != NONE || fact[DOUBT][item] != NO_DOUBT || !isAtHand(item)) return STATE;
            if (!log.admits()) return ROOM;
            if (sheet.point == NONE) {
                fact[DOUBT][item] = DOUBTFUL;
                return 0;
            }
            fixAddress(item, sheet.point);
            return 1;
        }

        int hearClerk(int item, int who, int point) {
            if (!has(item) || point != NONE && !book.hasPoint(point)) return UNKNOWN;
            if (outside(who, 0, 9)) return OUTSIDE;
            int clerks = fact[CLERKS][item];
            if (fact[DOUBT][item] != DOUBTFUL || (clerks >> who & 1) != 0) return STATE;
            if (!log.admits()) return ROOM;
            int told = Integer.bitCount(clerks);
            boolean agrees = told >= 1 && fact[FIRST_TOLD][item] == point || told >= 2 && fact[SECOND_TOLD][item] == point;
            fact[CLERKS][item] = clerks | 1 << who;
            if (agrees && point != NONE) {
                fixAddress(item, point);
                return 1;
            }
            if (agrees || told >= 2) {
                fact[DOUBT][item] = UNREADABLE;
                return 2;
            }
            fact[told == 0 ? FIRST_TOLD : SECOND_TOLD][item] = point;
            return 0;
        }

        int postAt(int item, int place) {
            if (!has(item) || !book.hasPlace(place)) return UNKNOWN;
            if (!is(item, IS_TOLD)) return STATE;
            if (!log.admits()) return ROOM;
            comeInAt(item, place);
            return 1;
        }

        int tellAbout(int item, int what) {
            if (outside(what, 0, DUE)) return OUTSIDE;
            if (what == GOAL) return goalOf(item);
            if (what == DUE) return priceDue(item) + centsDue(item);
            return fact[what][item];
        }

        /** ITS GOAL today; NONE without an address. */
        int goalOf(int item) {
            if (fact[BACK][item] == 1) return money.homeOf(fact[ACCOUNT][item]);
            int address = fact[ADDRESS][item];
            return address == NONE ? NONE : book.goalFor(address, fact[PERSON][item]);
        }

        /** ITS GOAL's place; NONE without an address. */
        int goalPlaceOf(int item) {
            int goal = goalOf(item);
            if (goal == NONE) return NONE;
            return book.placeOfPoint(goal == HELD || goal == RING ? book.lastAsked : goal);
        }

        int priceOf(int item) {
            return money.priceFor(fact[KIND][item], fact[WEIGHT][item], fact[SERVICES][item]);
        }

        private int priceDue(int item) {
            int price = fact[FRANKED][item] == NONE ? priceOf(item) : NONE;
            return price == NONE ? 0 : price + UNFRANKED;
        }

        private int centsDue(int item) {
            return fact[BACK][item] == 1 ? 0 : fact[CENTS][item];
        }

        boolean isFreeForLocker(int item) {
            boolean small = fact[KIND][item] <= 1 && !serves(item, BY_HAND) && !serves(item, REGISTERED);
            return small && priceDue(item) + centsDue(item) == 0;
        }

        void drawBars(int item, Bars bars) {
            bars.set(0, 3, item);
            bars.set(3, 1, fact[KIND][item]);
            bars.set(4, 3, fact[ADDRESS][item] + 1);
            bars.set(7, 1, fact[SERVICES][item]);
            bars.set(8, 3, fact[WEIGHT][item]);
            bars.close();
        }

        int handAtDoor(int item, int who, int proof, int cents) {
            return handOver(item, who, proof, cents, has(item) && is(item, IS_OUT));
        }

        int handAtPost(int item, int who, int proof, int cents) {
            return handOver(item, who, proof, cents, has(item) && isHeldAtPost(item));
        }

        private int handOver(int item, int who, int proof, int cents, boolean ready) {
            if (!has(item)) return UNKNOWN;
            if (outside(who, 1, 99) || outside(proof, 0, 9999) || outside(cents, 0, 1000000)) return OUTSIDE;
            if (!ready) return STATE;
            if (fact[BACK][item] == 0 && serves(item, BY_HAND) && who != fact[PERSON][item]) return NOT_HIM;
            if (serves(item, REGISTERED) && proof == 0) return NO_PROOF;
            int forPost = priceDue(item), forSender = centsDue(item);
            if (cents != forPost + forSender) return WRONG_SUM;
            int bookings = (forPost > 0 ? 1 : 0) + (forSender > 0 ? 1 : 0);
            if (bookings > 0 && !money.hasRoomFor(bookings) || !log.admits()) return ROOM;
            come(item, IS_DELIVERED);
            money.transfer(Money.CASH, Money.POST, forPost, item);
            money.transfer(Money.CASH, fact[ACCOUNT][item], forSender, item);
            return 1;
        }

        int missAtDoor(int item) {
            if (!has(item)) return UNKNOWN;
            if (!is(item, IS_OUT)) return STATE;
            if (!log.admits()) return ROOM;
            keepFor(item, HELD_DAYS);
            return fact[TILL][item];
        }

        int refuseItem(int item) {
            if (!has(item)) return UNKNOWN;
            if (!is(item, IS_OUT) && !isHeldAtPost(item)) return STATE;
            if (!log.admits()) return ROOM;
            return goBack(item);
        }

        int frankItem(int item) {
            if (!has(item)) return UNKNOWN;
            int price = priceOf(item);
            if (fact[FRANKED][item] != NONE || !isAtHand(item) || price == NONE) return STATE;
            int account = fact[ACCOUNT][item];
            if (money.balance[account] < price) return POOR;
            if (price > 0 && !money.hasRoomFor(1) || !log.admits()) return ROOM;
            money.transfer(account, Money.POST, price, item);
            fact[FRANKED][item] = price;
            return price;
        }

        int claimFor(int item, int cents) {
            if (!has(item)) return UNKNOWN;
            if (outside(cents, 1, 100000)) return OUTSIDE;
            if (!is(item, IS_LOST) || !serves(item, REGISTERED) || fact[CLAIMED][item] == 1) return STATE;
            if (!money.hasRoomFor(1) || !log.admits()) return ROOM;
            int paid = Math.min(cents, MOST_PAID);
            money.transfer(Money.CLAIMS, fact[ACCOUNT][item], paid, item);
            fact[CLAIMED][item] = 1;
            return paid;
        }

        /** How many items were not seen just once when they are of a state, and never when they are not. */
        int misplaced(int condition) {
            int wrong = 0;
            for (int item = 0; item < count; item++) {
                if (seen[item] != (is(item, condition) ? 1 : 0)) wrong++;
            }
            return wrong;
        }
    }

    /** Lockers with boxes that open to a key. */
    static final class Lockers {
        private static final int MOST = 8, BOXES = 10, WRONG_KEYS = 3, HELD_DAYS = 3;

        private final Log log;
        private final Book book;
        private final Items items;
        int count;
        private final int[] place = new int[MOST];
        private final int[] boxes = new int[MOST];
        private final int[] wrongKeys = new int[MOST];
        /** The item in each box; NONE. */
        private final int[][] box = new int[MOST][BOXES];

        Lockers(Log log, Book book, Items items) {
            this.log = log;
            this.book = book;
            this.items = items;
        }

        void clear() {
            count = 0;
        }

        boolean has(int locker) {
            return !outside(locker, 0, count - 1);
        }

        int make(int atPlace, int withBoxes) {
            if (!book.hasPlace(atPlace)) return UNKNOWN;
            if (outside(withBoxes, 1, BOXES)) return OUTSIDE;
            if (count >= MOST || !log.admits()) return ROOM;
            place[count] = atPlace;
            boxes[count] = withBoxes;
            wrongKeys[count] = 0;
            Arrays.fill(box[count], NONE);
            return count++;
        }

        int tell(int locker, int what) {
            switch (what) {
                case 0: return place[locker];
                case 1: return boxes[locker];
                case 2: return freeBoxes(locker);
                case 3: return wrongKeys[locker];
                default: return OUTSIDE;
            }
        }

        private int freeBoxes(int locker) {
            int free = 0;
            for (int b = 0; b < boxes[locker]; b++) {
                if (box[locker][b] == NONE) free++;
            }
            return free;
        }

        private int boxWith(int locker, int content) {
            for (int b = 0; b < boxes[locker]; b++) {
                if (box[locker][b] == content) return b;
            }
            return NONE;
        }

        int fill(int item, int locker) {
            if (!items.has(item) || !has(locker)) return UNKNOWN;
            boolean here = items.is(item, Items.IS_OUT) && items.fact[Items.PLACE][item] == place[locker];
            if (!here || !items.isFreeForLocker(item)) return STATE;
            int free = boxWith(locker, NONE);
            if (free == NONE || !log.admits()) return ROOM;
            box[locker][free] = item;
            items.keepFor(item, HELD_DAYS);
            items.fact[Items.LOCKER][item] = locker;
            return free;
        }

        int tryKey(int locker, int key) {
            if (!has(locker)) return UNKNOWN;
            if (wrongKeys[locker] >= WRONG_KEYS) return BARRED;
            if (!log.admits()) return ROOM;
            for (int b = 0; b < boxes[locker]; b++) {
                int item = box[locker][b];
                if (item != NONE && keyOf(item) == key) {
                    box[locker][b] = NONE;
                    items.come(item, Items.IS_DELIVERED);
                    return item;
                }
            }
            wrongKeys[locker]++;
            return NONE;
        }

        private static int keyOf(int item) {
            return 1000 + ((item + 1) * 1103515245 + 12345 >>> 16) % 9000;
        }

        /** Takes an item out of its box, if it is in one. */
        void drop(int item) {
            int locker = items.fact[Items.LOCKER][item];
            if (!has(locker)) return;
            int b = boxWith(locker, item);
            if (b != NONE) box[locker][b] = NONE;
        }

        void unbar() {
            for (int locker = 0; locker < count; locker++) wrongKeys[locker] = 0;
        }

        int misplaced() {
            int[] seen = items.seen;
            Arrays.fill(seen, 0);
            for (int locker = 0; locker < count; locker++) {
                for (int b = 0; b < boxes[locker]; b++) {
                    if (items.has(box[locker][b])) seen[box[locker][b]]++;
                }
            }
            int wrong = 0;
            for (int item = 0; item < items.count; item++) {
                if (seen[item] != (items.fact[Items.LOCKER][item] == NONE ? 0 : 1)) wrong++;
            }
            return wrong;
        }
    }

    /** Rounds with their stops, and the machine that sorts items into the order of these. */
    static final class Rounds {
        private static final int MOST = 12, STOPS = 20, BEST_ORDER = 8;
        private static final int PLACE = 0, X = 1, Y = 2, SIZE = 3, SORTED = 4, FACTS = 5;
        private static final int BINS = 0, GAP = 1, STEP = 2, TURN = 3, MOST_BINS = 16;
        private static final int RANK = 0, BIN = 1, STRAYED = 2;

        private final Log log;
        private final Book book;
        private final Items items;
        int count;
        private final int[][] fact = new int[FACTS][MOST];
        private final int[][] stop = new int[MOST][STOPS];
        private final int[] roundOfPoint = new int[Book.POINTS];
        private final int[][] sorted = new int[MOST][Items.MOST];
        private final int[] machine = new int[4];
        int passCount;
        int strayCount;
        /** The items that were WRONG in the latest sorting. */
        final int[] strays = new int[Items.MOST];
        /** The row that is fed to the machine, and what is told of each item in it. */
        private int fedCount;
        private final int[] fed = new int[Items.MOST];
        private final int[] spare = new int[Items.MOST];
        private final int[][] sorting = new int[3][Items.MOST];
        private final boolean[] gateOpen = new boolean[MOST_BINS];
        /** Which item of the pass came to a gate last. */
        private final int[] cameLast = new int[MOST_BINS];
        /** How far the stops of a round are from each other, the beginning being one behind the last of them. */
        private final int[][] apart = new int[BEST_ORDER + 1][BEST_ORDER + 1];
        /** By stops left (as bits) and the stop where one stands: the least way through them and back. */
        private final int[][] leastWay = new int[1 << BEST_ORDER][BEST_ORDER];

        Rounds(Log log, Book book, Items items) {
            this.log = log;
            this.book = book;
            this.items = items;
            clear();
        }

        void clear() {
            count = 0;
            passCount = 0;
            strayCount = 0;
            Arrays.fill(roundOfPoint, NONE);
            machine[BINS] = 4;
            machine[GAP] = 100;
            machine[STEP] = 50;
            machine[TURN] = 80;
        }

        boolean has(int round) {
            return !outside(round, 0, count - 1);
        }

        int roundOf(int point) {
            return roundOfPoint[point];
        }

        int stopAt(int round, int i) {
            return outside(i, 0, fact[SIZE][round] - 1) ? NONE : stop[round][i];
        }

        int sortedAt(int round, int i) {
            return outside(i, 0, fact[SORTED][round] - 1) ? NONE : sorted[round][i];
        }

        int setMachine(int bins, int gap, int step, int turn) {
            if (outside(bins, 2, MOST_BINS) || outside(gap, 1, 2000) || outside(step, 1, 500) || outside(turn, 0, 4000)) return OUTSIDE;
            if (!log.admits()) return ROOM;
            machine[BINS] = bins;
            machine[GAP] = gap;
            machine[STEP] = step;
            machine[TURN] = turn;
            return 1;
        }

        int make(int place, int x, int y) {
            if (!book.hasPlace(place)) return UNKNOWN;
            if (outside(x, -2000, 2000) || outside(y, -2000, 2000)) return OUTSIDE;
            if (count >= MOST || !log.admits()) return ROOM;
            fact[PLACE][count] = place;
            fact[X][count] = x;
            fact[Y][count] = y;
            fact[SIZE][count] = 0;
            fact[SORTED][count] = 0;
            return count++;
        }

        int addStop(int point, int round) {
            if (!book.hasPoint(point) || !has(round)) return UNKNOWN;
            if (book.placeOfPoint(point) != fact[PLACE][round] || roundOfPoint[point] != NONE) return STATE;
            if (fact[SIZE][round] >= STOPS || !log.admits()) return ROOM;
            roundOfPoint[point] = round;
            stop[round][fact[SIZE][round]++] = point;
            return fact[SIZE][round];
        }

        int arrangeStops(int round) {
            if (!has(round)) return UNKNOWN;
            if (!log.admits()) return ROOM;
            int size = fact[SIZE][round];
            int[] stops = stop[round];
            for (int k = 1; k < size; k++) {
                int point = stops[k];
                int j = k;
                for (; j > 0 && stops[j - 1] > point; j--) stops[j] = stops[j - 1];
                stops[j] = point;
            }
            if (size > BEST_ORDER) goToNearest(round);
            else goLeastWay(round);
            return wayOf(round);
        }

        private int wayOf(int round) {
            int size = fact[SIZE][round];
            if (size == 0) return 0;
            int way = fromBeginning(round, stop[round][0]) + fromBeginning(round, stop[round][size - 1]);
            for (int k = 1; k < size; k++) way += between(stop[round][k - 1], stop[round][k]);
            return way;
        }

        private int between(int point, int other) {
            return Math.abs(book.xOf(point) - book.xOf(other)) + Math.abs(book.yOf(point) - book.yOf(other));
        }

        private int fromBeginning(int round, int point) {
            return Math.abs(book.xOf(point) - fact[X][round]) + Math.abs(book.yOf(point) - fact[Y][round]);
        }

        /** Orders stops that lie by their numbers: each time the nearest of those left, of several the first. */
        private void goToNearest(int round) {
            int[] stops = stop[round];
            for (int k = 0; k < fact[SIZE][round]; k++) {
                int best = k;
                int least = ENDLESS;
                for (int j = k; j < fact[SIZE][round]; j++) {
                    int way = k == 0 ? fromBeginning(round, stops[j]) : between(stops[k - 1], stops[j]);
                    if (way < least) {
                        least = way;
                        best = j;
                    }
                }
                int point = stops[best];
                for (int j = best; j > k; j--) stops[j] = stops[j - 1];
                stops[k] = point;
            }
        }

        /** Orders stops that lie by their numbers: of the orders with the least way the first by numbers. */
        private void goLeastWay(int round) {
            int size = fact[SIZE][round];
            measure(round, size);
            for (int left = 0; left < 1 << size; left++) {
                for (int at = 0; at < size; at++) {
                    int next = bestNext(size, left, at);
                    leastWay[left][at] = next == NONE ? apart[at][size] : apart[at][next] + leastWay[left ^ 1 << next][next];
                }
            }
            int left = (1 << size) - 1;
            int at = size;
            for (int k = 0; k < size; k++) {
                int next = bestNext(size, left, at);
                if (next == NONE) return;
                left ^= 1 << next;
                spare[k] = stop[round][next];
                at = next;
            }
            System.arraycopy(spare, 0, stop[round], 0, size);
        }

        private void measure(int round, int size) {
            for (int a = 0; a < size; a++) {
                apart[a][size] = fromBeginning(round, stop[round][a]);
                apart[size][a] = apart[a][size];
                for (int b = 0; b < size; b++) apart[a][b] = between(stop[round][a], stop[round][b]);
            }
        }

        /** Of the stops that are left that to which to go from where one stands; NONE when none is left. */
        private int bestNext(int size, int left, int at) {
            int best = NONE;
            int least = ENDLESS;
            for (int next = 0; next < size; next++) {
                if ((left >> next & 1) == 0) continue;
                int way = apart[at][next] + leastWay[left ^ 1 << next][next];
                if (way < least) {
                    least = way;
                    best = next;
                }
            }
            return best;
        }

        int sortItems(int round) {
            if (!has(round)) return UNKNOWN;
            if (fact[SORTED][round] > 0) return STATE;
            if (!log.admits()) return ROOM;
            gather(round);
            rank();
            passCount = 0;
            // With 300 items and two bins there are nine passes: more of them cannot be.
            int reach = 1;
            for (int p = 0; p < 10 && (p == 0 || reach < fedCount) && fedCount > 0; p++) {
                feedPass(reach);
                reach *= machine[BINS];
                passCount++;
            }
            keepSorted(round);
            return fact[SORTED][round];
        }

        /** Lays the items that are to be sorted into the row that is fed, as they came IN. */
        private void gather(int round) {
            fedCount = 0;
            for (int item = 0; item < items.count; item++) {
                if (!items.is(item, Items.IS_IN) || items.fact[Items.PLACE][item] != fact[PLACE][round]) continue;
                int goal = items.goalOf(item);
                if (!book.hasPoint(goal) || roundOfPoint[goal] != round) continue;
                sorting[RANK][item] = placeAmong(round, goal);
                sorting[STRAYED][item] = 0;
                int k = fedCount++;
                for (; k > 0 && cameAfter(fed[k - 1], item); k--) fed[k] = fed[k - 1];
                fed[k] = item;
            }
        }

        private boolean cameAfter(int item, int other) {
            return items.fact[Items.CAME_IN][item] > items.fact[Items.CAME_IN][other];
        }

        private int placeAmong(int round, int point) {
            for (int k = 0; k < fact[SIZE][round]; k++) {
                if (stop[round][k] == point) return k;
            }
            return NONE;
        }

        /** Makes of the places of the stops, of which several items may have one, the ranks of the items. */
        private void rank() {
            int[] rankOf = sorting[RANK];
            for (int f = 0; f < fedCount; f++) {
                int k = f;
                for (; k > 0 && rankOf[spare[k - 1]] > rankOf[fed[f]]; k--) spare[k] = spare[k - 1];
                spare[k] = fed[f];
            }
            for (int k = 0; k < fedCount; k++) rankOf[spare[k]] = k;
        }

        private void feedPass(int divisor) {
            int bins = machine[BINS];
            if (divisor < 1 || bins < 2) return;
            for (int gate = 0; gate < bins; gate++) {
                gateOpen[gate] = false;
                cameLast[gate] = NONE;
            }
            for (int k = 0; k < fedCount; k++) {
                int item = fed[k];
                int own = sorting[RANK][item] / divisor % bins;
                sorting[BIN][item] = binReached(k, own);
                if (sorting[BIN][item] != own) sorting[STRAYED][item] = 1;
            }
            int kept = 0;
            for (int bin = 0; bin <= bins; bin++) {
                for (int k = 0; k < fedCount; k++) {
                    if (sorting[BIN][fed[k]] == bin) spare[kept++] = fed[k];
                }
            }
            System.arraycopy(spare, 0, fed, 0, fedCount);
        }

        /** Lets the k-th item of a pass go along the gates; all are one STEP apart, so only the GAP tells who is late. */
        private int binReached(int k, int own) {
            for (int gate = 0; gate < machine[BINS]; gate++) {
                boolean wanted = gate == own;
                boolean hasTime = cameLast[gate] == NONE || (k - cameLast[gate]) * machine[GAP] >= machine[TURN];
                if (hasTime) gateOpen[gate] = wanted;
                cameLast[gate] = k;
                if (gateOpen[gate]) return gate;
            }
            return machine[BINS];
        }

        private void keepSorted(int round) {
            for (int k = 0; k < fedCount; k++) {
                int item = fed[k];
                spare[k] = item;
                if (sorting[STRAYED][item] == 1) continue;
                sorted[round][fact[SORTED][round]++] = item;
                items.come(item, Items.IS_SORTED);
            }
            strayCount = 0;
            for (int k = 0; k < fedCount; k++) {
                if (sorting[STRAYED][fed[k]] == 1) addStray(fed[k]);
            }
        }

        private void addStray(int item) {
            int k = strayCount++;
            for (; k > 0 && strays[k - 1] > item; k--) strays[k] = strays[k - 1];
            strays[k] = item;
        }

        int sendOut(int round) {
            if (!has(round)) return UNKNOWN;
            int size = fact[SORTED][round];
            if (size == 0) return STATE;
            if (!log.admits()) return ROOM;
            for (int k = 0; k < size; k++) items.come(sorted[round][k], Items.IS_OUT);
            fact[SORTED][round] = 0;
            return size;
        }

        /** Takes an item out of its row, if it is in one. */
        void drop(int item) {
            if (!items.is(item, Items.IS_SORTED)) return;
            for (int round = 0; round < count; round++) {
                fact[SORTED][round] = without(sorted[round], fact[SORTED][round], item);
            }
        }

        int misplaced() {
            int[] seen = items.seen;
            Arrays.fill(seen, 0);
            for (int round = 0; round < count; round++) {
                for (int k = 0; k < fact[SORTED][round]; k++) seen[sorted[round][k]]++;
            }
            return items.misplaced(Items.IS_SORTED);
        }
    }

    /** Lines between places, and the bags that they carry. */
    static final class Lines {
        static final int BAG_FACTS = 6;
        private static final int MOST = 20, BAGS = 80, CONTENT = 40;
        private static final int FROM = 0, TO = 1, LEAVES = 2, TAKES = 3, SPACE = 4, NEXT = 5, LATENESS = 6, FACTS = 7;
        private static final int CONDITION = 0, AT = 1, END = 2, SIZE = 3, LINE = 4, ARRIVES = 5;
        private static final int IS_OPEN = 0, WAITS = 1, ON_LINE = 2, EMPTIED = 3;

        private final Log log;
        private final Chronicle chronicle;
        private final Book book;
        private final Items items;
        int count;
        private final int[][] fact = new int[FACTS][MOST];
        int bags;
        final int[][] bag = new int[BAG_FACTS][BAGS];
        private final int[][] content = new int[BAGS][CONTENT];
        /** Of the latest search of ways: when each place is reached (NONE: not), and by which first line. */
        private final int[] reachedAt = new int[Book.PLACES];
        private final int[] firstLine = new int[Book.PLACES];
        private final boolean[] lookedAt = new boolean[Book.PLACES];

        Lines(Log log, Chronicle chronicle, Book book, Items items) {
            this.log = log;
            this.chronicle = chronicle;
            this.book = book;
            this.items = items;
        }

        void clear() {
            count = 0;
            bags = 0;
        }

        private boolean has(int line) {
            return !outside(line, 0, count - 1);
        }

        boolean hasBag(int b) {
            return !outside(b, 0, bags - 1);
        }

        int make(int from, int to, int leaves, int takes, int space) {
            if (!book.hasPlace(from) || !book.hasPlace(to)) return UNKNOWN;
            if (from == to || outside(leaves, 0, DAY - 1) || outside(takes, 1, 3000) || outside(space, 1, 20)) return OUTSIDE;
            if (count >= MOST || !log.admits()) return ROOM;
            fact[FROM][count] = from;
            fact[TO][count] = to;
            fact[LEAVES][count] = leaves;
            fact[TAKES][count] = takes;
            fact[SPACE][count] = space;
            setNext(count);
            return count++;
        }

        private void setNext(int line) {
            fact[NEXT][line] = firstFrom(line, chronicle.time + 1);
            fact[LATENESS][line] = 0;
        }

        /** The first minute from a time on that is a line's minute of a day. */
        private int firstFrom(int line, int time) {
            return time + (fact[LEAVES][line] + DAY - time % DAY) % DAY;
        }

        int delay(int line, int by) {
            if (!has(line)) return UNKNOWN;
            if (outside(by, 1, 600)) return OUTSIDE;
            if (!log.admits()) return ROOM;
            fact[NEXT][line] += by;
            fact[LATENESS][line] += by;
            return fact[LATENESS][line];
        }

        int makeBag(int place, int to) {
            if (!book.hasPlace(place) || !book.hasPlace(to)) return UNKNOWN;
            if (place == to) return OUTSIDE;
            if (bags >= BAGS || !log.admits()) return ROOM;
            bag[CONDITION][bags] = IS_OPEN;
            bag[AT][bags] = place;
            bag[END][bags] = to;
            bag[SIZE][bags] = 0;
            bag[LINE][bags] = NONE;
            bag[ARRIVES][bags] = NONE;
            return bags++;
        }

        int fillBag(int b, int item) {
            if (!hasBag(b) || !items.has(item)) return UNKNOWN;
            boolean here = items.is(item, Items.IS_IN) && items.fact[Items.PLACE][item] == bag[AT][b];
            if (bag[CONDITION][b] != IS_OPEN || !here || items.goalPlaceOf(item) != bag[END][b]) return STATE;
            if (bag[SIZE][b] >= CONTENT || !log.admits()) return ROOM;
            content[b][bag[SIZE][b]++] = item;
            items.come(item, Items.IS_BAGGED);
            items.fact[Items.BAG][item] = b;
            return bag[SIZE][b];
        }

        int shutBag(int b) {
            if (!hasBag(b)) return UNKNOWN;
            if (bag[CONDITION][b] != IS_OPEN) return STATE;
            if (!log.admits()) return ROOM;
            bag[CONDITION][b] = WAITS;
            return bag[SIZE][b];
        }

        int emptyBag(int b) {
            if (!hasBag(b)) return UNKNOWN;
            if (bag[CONDITION][b] != WAITS || bag[AT][b] != bag[END][b]) return STATE;
            if (!log.admits()) return ROOM;
            int size = bag[SIZE][b];
            for (int k = 0; k < size; k++) items.comeInAt(content[b][k], bag[END][b]);
            bag[SIZE][b] = 0;
            bag[CONDITION][b] = EMPTIED;
            return size;
        }

        /** Takes an item out of its bag, if it is in one. */
        void drop(int item) {
            int b = items.fact[Items.BAG][item];
            if (hasBag(b)) bag[SIZE][b] = without(content[b], bag[SIZE][b], item);
        }

        int tellWay(int from, int to, int what) {
            if (!book.hasPlace(from) || !book.hasPlace(to)) return UNKNOWN;
            if (outside(what, 0, 1)) return OUTSIDE;
            search(from);
            return what == 0 ? reachedAt[to] : firstLine[to];
        }

        /** Finds THE WAY from a place to all others, from now on. */
        private void search(int from) {
            for (int place = 0; place < book.places; place++) {
                reachedAt[place] = NONE;
                firstLine[place] = NONE;
                lookedAt[place] = false;
            }
            reachedAt[from] = chronicle.time;
            for (int k = 0; k < book.places; k++) {
                int place = soonestReached();
                if (place == NONE) return;
                lookedAt[place] = true;
                for (int line = 0; line < count; line++) {
                    if (fact[FROM][line] == place) reachBy(line);
                }
            }
        }

        private int soonestReached() {
            int soonest = NONE;
            for (int place = 0; place < book.places; place++) {
                if (reachedAt[place] == NONE || lookedAt[place]) continue;
                if (soonest == NONE || reachedAt[place] < reachedAt[soonest]) soonest = place;
            }
            return soonest;
        }

        private void reachBy(int line) {
            int from = fact[FROM][line], to = fact[TO][line];
            int notBefore = reachedAt[from];
            int leaving = fact[NEXT][line] >= notBefore ? fact[NEXT][line] : firstFrom(line, notBefore);
            int there = leaving + fact[TAKES][line];
            if (reachedAt[to] != NONE && reachedAt[to] <= there) return;
            reachedAt[to] = there;
            firstLine[to] = firstLine[from] == NONE ? line : firstLine[from];
        }

        /** The next minute at which a line leaves or a bag arrives. */
        int nextMinute() {
            int next = ENDLESS;
            for (int line = 0; line < count; line++) next = Math.min(next, fact[NEXT][line]);
            for (int b = 0; b < bags; b++) {
                if (bag[CONDITION][b] == ON_LINE) next = Math.min(next, bag[ARRIVES][b]);
            }
            return next;
        }

        void arrive() {
            for (int b = 0; b < bags; b++) {
                if (bag[CONDITION][b] != ON_LINE || bag[ARRIVES][b] != chronicle.time) continue;
                bag[CONDITION][b] = WAITS;
                bag[AT][b] = fact[TO][bag[LINE][b]];
                bag[LINE][b] = NONE;
                bag[ARRIVES][b] = NONE;
            }
        }

        void leaveAll() {
            for (int line = 0; line < count; line++) {
                if (fact[NEXT][line] != chronicle.time) continue;
                load(line);
                setNext(line);
            }
        }

        private void load(int line) {
            search(fact[FROM][line]);
            int space = fact[SPACE][line] - carriedBy(line);
            for (int b = 0; b < bags && space > 0; b++) {
                boolean waitsHere = bag[CONDITION][b] == WAITS && bag[AT][b] == fact[FROM][line];
                if (!waitsHere || firstLine[bag[END][b]] != line) continue;
                bag[CONDITION][b] = ON_LINE;
                bag[AT][b] = NONE;
                bag[LINE][b] = line;
                bag[ARRIVES][b] = chronicle.time + fact[TAKES][line];
                space--;
            }
        }

        private int carriedBy(int line) {
            int carried = 0;
            for (int b = 0; b < bags; b++) {
                if (bag[LINE][b] == line) carried++;
            }
            return carried;
        }

        int overladen() {
            int wrong = 0;
            for (int line = 0; line < count; line++) {
                if (carriedBy(line) > fact[SPACE][line]) wrong++;
            }
            return wrong;
        }

        int misplaced() {
            int[] seen = items.seen;
            Arrays.fill(seen, 0);
            for (int b = 0; b < bags; b++) {
                for (int k = 0; k < bag[SIZE][b]; k++) seen[content[b][k]]++;
            }
            return items.misplaced(Items.IS_BAGGED);
        }
    }
}
