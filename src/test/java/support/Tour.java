import java.util.ArrayList;
import java.util.List;

/** A run of acts in which each of the forty is done once at least, with their records and the answers that are due. */
final class Tour {
    interface Step {
        long on(PostHouse x);
    }

    static final class Act {
        final long due;
        final Step step;
        final byte[] record;

        Act(long due, Step step, byte[] record) {
            this.due = due;
            this.step = step;
            this.record = record;
        }
    }

    private final List<Act> acts = new ArrayList<>();

    private Tour() { }

    static List<Act> acts() {
        Tour t = new Tour();
        t.begin();
        t.sortAndDeliver();
        t.carry();
        t.doors();
        return t.acts;
    }

    private void add(long due, Step step, int number, int... args) {
        acts.add(new Act(due, step, Disk.record(number, args)));
    }

    private void addTape(long due, Step step, int number, byte[] tape, int... args) {
        acts.add(new Act(due, x -> {
            Town.lay(x, tape);
            return step.on(x);
        }, Disk.record(number, tape, args)));
    }

    private void item(int number, int services, int person, int cents, int point) {
        add(number, x -> x.item(0, 40, services, 4, person, cents), 5, 0, 40, services, 4, person, cents);
        add(1, x -> x.address(number, point), 6, number, point);
        add(1, x -> x.post(number, 0), 9, number, 0);
    }

    private void begin() {
        addTape(13, x -> x.book(), 1, Sheets.latin(Town.BOOK));
        add(0, x -> x.forward(1, 7, 2, 9), 2, 1, 7, 2, 9);
        add(1, x -> x.hold(2, 8, 5), 3, 2, 8, 5);
        addTape(1, x -> x.sheet(9), 4, new byte[18], 9);
        add(4, x -> x.account(3), 29, 3);
        add(70000, x -> x.deposit(4, 70000), 30, 4, 70000);
        addTape(2, x -> x.tariff(), 31, Sheets.latin("K0,50=80;V2=7;"));
        add(0, x -> x.item(0, 40, 0, 4, 11, 0), 5, 0, 40, 0, 4, 11, 0);
        add(0, x -> x.take(0), 7, 0);
        add(0, x -> x.clerk(0, 3, -1), 8, 0, 3, -1);
        add(1, x -> x.address(0, 0), 6, 0, 0);
        add(1, x -> x.post(0, 0), 9, 0, 0);
        add(80, x -> x.frank(0), 32, 0);
    }

    private void sortAndDeliver() {
        add(1, x -> x.machine(3, 2000, 300, 10), 10, 3, 2000, 300, 10);
        add(0, x -> x.round(0, -5, 600), 11, 0, -5, 600);
        add(1, x -> x.assign(0, 0), 12, 0, 0);
        add(2 * (18 + 580), x -> x.arrange(0), 13, 0);
        add(1, x -> x.sort(0), 14, 0);
        add(1, x -> x.out(0), 15, 0);
        add(0, x -> x.locker(0, 2), 36, 0, 2);
        add(0, x -> x.put(0, 0), 25, 0, 0);
        add(Town.NONE, x -> x.openBox(0, 70001), 27, 0, 70001);
        add(0, x -> x.openBox(0, Town.key(0)), 27, 0, Town.key(0));
    }

    private void carry() {
        add(0, x -> x.leg(0, 1, 1000, 300, 3), 16, 0, 1, 1000, 300, 3);
        add(257, x -> x.late(0, 257), 17, 0, 257);
        item(1, 1, 12, 0, 4);
        add(0, x -> x.bag(0, 1), 18, 0, 1);
        add(1, x -> x.into(0, 1), 19, 0, 1);
        add(1, x -> x.closeBag(0), 20, 0);
        add(1400, x -> x.tick(1400), 40, 1400);
        add(1700, x -> x.tick(300), 40, 300);
        add(1, x -> x.openBag(0), 21, 0);
        add(1, x -> x.lose(1), 28, 1);
        add(300, x -> x.claim(1, 300), 35, 1, 300);
        add(0, x -> x.order(4, 9, 600), 33, 4, 9, 600);
        add(600, x -> x.payOut(0, 9, 9000), 34, 0, 9, 9000);
        add(1550, x -> x.device(2, 150), 37, 2, 150);
        add(1, x -> x.scanned(2, 1, 3, 140), 38, 2, 1, 3, 140);
        add(1, x -> x.wish(4, 5, true), 39, 4, 5, 1);
        add(0, x -> x.wish(4, 6, false), 39, 4, 6, 0);
    }

    private void doors() {
        item(2, 3, 13, 500, 0);
        item(3, 0, 14, 0, 0);
        item(4, 0, 15, 0, 0);
        item(5, 0, 16, 0, 0);
        add(4, x -> x.sort(0), 14, 0);
        add(4, x -> x.out(0), 15, 0);
        add(1, x -> x.hand(2, 99, 9999, 687), 22, 2, 99, 9999, 687);
        add(8, x -> x.miss(3), 23, 3);
        add(8, x -> x.miss(4), 23, 4);
        add(1, x -> x.refuse(3), 24, 3);
        add(1, x -> x.pickUp(4, 1, 0, 180), 26, 4, 1, 0, 180);
    }
}
