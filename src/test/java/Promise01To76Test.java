/** What holds for all calls: DOWN is told before all else, the log's room last of all. */
public final class Promise01To76Test {
    public static void main(String[] args) {
        downFirst();
        noRoom();
        lastBytes();
        Check.finish();
    }

    /** While it is DOWN each of these is told before what else would be refused. */
    private static void downFirst() {
        PostHouse x = Town.built(0);
        x.cut(0, 0);
        x.sync();
        long[] got = {x.sync(), x.cut(-2, -1), x.verify(), x.count(18), x.book(), x.forward(9, 0, 9, 0), x.hold(9, 0, 0), x.effective(9, 0), x.lastPoint(9, 0), x.find(1), x.pointAt(9, 9),
            x.sheet(1), x.read(), x.textLine(0, 9), x.sign(0, 0, 9), x.item(9, 0, 9, 0, 0, 0), x.address(9, 9), x.take(9), x.clerk(9, 99, 99), x.post(9, 9), x.about(9, 99), x.bar(9, 99),
            x.scan(), x.mended(), x.machine(0, 0, 0, 0), x.round(9, 9999, 0), x.assign(9, 9), x.arrange(9), x.stop(9, 9), x.sort(9), x.passes(), x.wrong(0), x.row(9, 9), x.out(9),
            x.leg(9, 9, -1, 0, 0), x.late(9, 0), x.bag(9, 9), x.into(9, 9), x.closeBag(9), x.openBag(9), x.bagAt(9, 9), x.way(9, 9, 9), x.hand(9, 0, -1, -1), x.miss(9), x.refuse(9), x.put(9, 9),
            x.pickUp(9, 0, -1, -1), x.openBox(9, 0), x.lose(9), x.account(9), x.deposit(0, 0), x.balance(99), x.entry(0, 9), x.tariff(), x.price(9), x.frank(9), x.order(0, 0, 0),
            x.payOut(9, 0, -1), x.orderAt(9, 9), x.claim(9, 0), x.locker(9, 0), x.lockerAt(9, 9), x.device(9, -1), x.scanned(9, 9, 99, -1), x.trace(9, 0, 9), x.wish(0, 9, true),
            x.notice(0, 9), x.tick(0), x.now(), x.audit()};
        for (int k = 0; k < got.length; k++) Check.due("DOWN before all else: call " + k, got[k], Town.DOWN);
        Check.due("DOWN: so many calls", got.length, 76 - 6);
    }

    /**
     * A house with all that any act needs, and a log of which so many blocks are used: items 0 TOLD, 1 doubtful, 2 IN at place 0 for
     * place 1, 3 and 4 OUT, 5 HELD, 6 LOST and registered, 7 SORTED in round 1; bag 0 OPEN, bag 1 at its end.
     */
    private static PostHouse ready(int blocks) {
        PostHouse x = new PostHouse();
        Town.lay(x, Sheets.latin(Town.BOOK));
        step(x, x.book());
        step(x, x.account(3));
        step(x, x.deposit(4, 5000));
        Town.lay(x, Sheets.latin("K0,50=80;"));
        step(x, x.tariff());
        Town.lay(x, new byte[8]);
        step(x, x.sheet(8));
        for (int item = 0; item < 8; item++) step(x, x.item(0, 40, item == 6 ? 1 : 0, 4, 7, 0));
        step(x, x.take(1));
        int[] point = {-1, -1, 3, 0, 0, 0, 0, 2};
        for (int item = 2; item < 8; item++) {
            step(x, x.address(item, point[item]));
            step(x, x.post(item, 0));
        }
        step(x, x.frank(3));
        for (int round = 0; round < 3; round++) step(x, x.round(0, 0, 0));
        step(x, x.assign(0, 0));
        step(x, x.assign(2, 1));
        step(x, x.lose(6));
        step(x, x.sort(0));
        step(x, x.out(0));
        step(x, x.sort(1));
        step(x, x.miss(5));
        step(x, x.locker(0, 2));
        step(x, x.order(4, 9, 60));
        step(x, x.leg(0, 1, 10, 5, 3));
        step(x, x.bag(0, 1));
        step(x, x.bag(0, 1));
        step(x, x.closeBag(1));
        step(x, x.tick(100));
        for (int k = x.count(15); k < blocks; k++) step(x, x.tick(1));
        Check.due("10: blocks used", x.count(15), blocks);
        return x;
    }

    /** An act that is taken; it gets a block of its own. */
    private static void step(PostHouse x, int answer) {
        Check.due("an act of the way there", answer >= 0 ? 1 : answer, 1);
        Check.due("4: its block", x.sync(), 1);
    }

    private interface Call {
        int on(PostHouse x);
    }

    private static final class Act {
        final String promise;
        final int bytes;
        final Call call;

        Act(String promise, int bytes, Call call) {
            this.promise = promise;
            this.bytes = bytes;
            this.call = call;
        }
    }

    private static Act laid(String promise, int bytes, byte[] tape, Call call) {
        return new Act(promise, bytes, x -> {
            Town.lay(x, tape);
            return call.on(x);
        });
    }

    /** Each act as it would be taken in the house that is ready, and how long its record is. */
    private static final Act[] ACTS = {
        laid("11", 3 + 6, Sheets.latin("P55,X;"), x -> x.book()), new Act("12", 17, x -> x.forward(0, 0, 1, 9)), new Act("13", 13, x -> x.hold(0, 0, 9)),
        laid("18", 7 + 8, new byte[8], x -> x.sheet(8)), new Act("22", 25, x -> x.item(0, 1, 0, 4, 1, 0)), new Act("23", 9, x -> x.address(0, 0)),
        new Act("24", 5, x -> x.take(0)), new Act("25", 13, x -> x.clerk(1, 0, 0)), new Act("26", 9, x -> x.post(0, 0)), new Act("31", 17, x -> x.machine(2, 1, 1, 0)),
        new Act("32", 13, x -> x.round(0, 0, 0)), new Act("33", 9, x -> x.assign(1, 0)), new Act("34", 5, x -> x.arrange(0)), new Act("36", 5, x -> x.sort(2)),
        new Act("40", 5, x -> x.out(1)), new Act("41", 21, x -> x.leg(0, 1, 0, 1, 1)), new Act("42", 9, x -> x.late(0, 1)), new Act("43", 9, x -> x.bag(0, 1)),
        new Act("44", 9, x -> x.into(0, 2)), new Act("45", 5, x -> x.closeBag(0)), new Act("46", 5, x -> x.openBag(1)), new Act("49", 17, x -> x.hand(4, 7, 0, 180)),
        new Act("50", 5, x -> x.miss(4)), new Act("51", 5, x -> x.refuse(4)), new Act("52", 9, x -> x.put(3, 0)), new Act("53", 17, x -> x.pickUp(5, 7, 0, 180)),
        new Act("54", 9, x -> x.openBox(0, 1)), new Act("55", 5, x -> x.lose(0)), new Act("56", 5, x -> x.account(0)), new Act("57", 9, x -> x.deposit(4, 1)),
        laid("60", 3 + 5, Sheets.latin("V1=5;"), x -> x.tariff()), new Act("62", 5, x -> x.frank(0)), new Act("63", 13, x -> x.order(4, 1, 1)),
        new Act("64", 13, x -> x.payOut(0, 9, 1)), new Act("66", 9, x -> x.claim(6, 1)), new Act("67", 9, x -> x.locker(0, 1)), new Act("69", 9, x -> x.device(0, 0)),
        new Act("70", 17, x -> x.scanned(0, 0, 0, 0)), new Act("72", 13, x -> x.wish(4, 0, true)), new Act("74", 5, x -> x.tick(1))};

    private static void noRoom() {
        PostHouse x = ready(150);
        String before = counts(x).toString();
        for (Act act : ACTS) Check.due(act.promise + ": the log has no room", act.call.on(x), Town.ROOM);
        Check.due("ROOM: forty acts", ACTS.length, 40);
        Check.due("ROOM: what was refused changed nothing", counts(x).toString(), before);
        Check.due("4: nothing waits", x.sync(), 0);
        roomIsToldLast(ready(150));
    }

    /** Lets records of so many bytes wait: 5 by a tick, 9 by a device. */
    private static void wait(PostHouse x, int bytes) {
        int devices = 0;
        while ((bytes - 9 * devices) % 5 != 0) devices++;
        for (int k = 0; k < devices; k++) x.device(7, 0);
        for (int k = 9 * devices; k < bytes; k += 5) x.tick(1);
        Check.due("10: bytes that wait", x.count(17), bytes);
    }

    /** Each act has room to the last byte of the last block, and none if a byte is missing. */
    private static void lastBytes() {
        for (Act act : ACTS) {
            PostHouse x = ready(149), y = ready(149);
            wait(x, 248 - act.bytes);
            int got = act.call.on(x);
            Check.due(act.promise + ": just room enough", got >= Town.NONE ? 0 : got, 0);
            Check.due("10: the last block is full", x.count(17), 248);
            Check.due("4: it is written", x.sync(), 1);
            wait(y, 249 - act.bytes);
            Check.due(act.promise + ": a byte too little", act.call.on(y), Town.ROOM);
            Check.due("10: no record more", y.count(17), 249 - act.bytes);
        }
    }

    private static StringBuilder counts(PostHouse x) {
        StringBuilder b = new StringBuilder();
        for (int what = 0; what <= 17; what++) b.append(x.count(what)).append(' ');
        for (int item = 0; item < 8; item++) b.append(x.about(item, 0)).append(x.about(item, 13));
        return b.append(x.now()).append(' ').append(x.bagAt(0, 0)).append(x.bagAt(1, 0)).append(x.orderAt(0, 0)).append(x.lockerAt(0, 3)).append(x.read());
    }

    private static void last(String name, long got, long due) {
        Check.due(name + ": before the log's room", got, due);
    }

    private static void roomIsToldLast(PostHouse x) {
        Town.lay(x, Sheets.latin("P55,"));
        last("11: a fault", x.book(), -1004);
        Town.lay(x, Sheets.latin("P100,X;"));
        last("11: a code that there is", x.book(), -1000);
        Town.lay(x, Sheets.latin("V3=5;"));
        last("60: a fault", x.tariff(), -1000);
        Town.lay(x, new byte[9]);
        last("18", x.sheet(8), Town.OUTSIDE);
        last("12", x.forward(0, 0, 0, 9), Town.OUTSIDE);
        last("13", x.hold(0, 0, 0), Town.OUTSIDE);
        last("22", x.item(4, 1, 0, 4, 1, 0), Town.OUTSIDE);
        last("23", x.address(2, 0), Town.STATE);
        last("24", x.take(1), Town.STATE);
        last("25", x.clerk(0, 0, 0), Town.STATE);
        last("25", x.clerk(1, 10, 0), Town.OUTSIDE);
        last("26", x.post(2, 0), Town.STATE);
        last("31", x.machine(17, 1, 1, 0), Town.OUTSIDE);
        last("32", x.round(0, 2001, 0), Town.OUTSIDE);
        last("33", x.assign(0, 0), Town.STATE);
        last("34", x.arrange(3), Town.UNKNOWN);
        last("36", x.sort(1), Town.STATE);
        last("40", x.out(0), Town.STATE);
        last("41", x.leg(0, 0, 0, 1, 1), Town.OUTSIDE);
        last("42", x.late(0, 601), Town.OUTSIDE);
        last("43", x.bag(0, 0), Town.OUTSIDE);
        last("44", x.into(0, 3), Town.STATE);
        last("45", x.closeBag(1), Town.STATE);
        last("46", x.openBag(0), Town.STATE);
        last("49", x.hand(4, 7, 0, 179), Town.WRONG_SUM);
        last("50", x.miss(5), Town.STATE);
        last("51", x.refuse(0), Town.STATE);
        last("52", x.put(4, 0), Town.STATE);
        last("53", x.pickUp(5, 7, 0, 179), Town.WRONG_SUM);
        last("54", x.openBox(1, 1), Town.UNKNOWN);
        last("55", x.lose(6), Town.STATE);
        last("56", x.account(5), Town.UNKNOWN);
        last("57", x.deposit(4, 0), Town.OUTSIDE);
        last("62", x.frank(3), Town.STATE);
        last("63", x.order(4, 1, 6000), Town.POOR);
        last("64", x.payOut(0, 9, 0), Town.NO_PROOF);
        last("66", x.claim(0, 1), Town.STATE);
        last("67", x.locker(0, 11), Town.OUTSIDE);
        last("69", x.device(8, 0), Town.UNKNOWN);
        last("70", x.scanned(0, 0, 10, 0), Town.OUTSIDE);
        last("72", x.wish(4, 9, true), Town.OUTSIDE);
        last("74", x.tick(1441), Town.OUTSIDE);
    }
}
