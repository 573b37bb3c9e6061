/** Every argument of every call: the last values that are taken, and the first ones that are not, at both ends. */
public final class EndsTest {
    private static final Class<IndexOutOfBoundsException> INDEX = IndexOutOfBoundsException.class;
    private static final Class<IllegalArgumentException> ARGUMENT = IllegalArgumentException.class;

    /** A call with one argument left open; each value of it meets a line of its own. */
    interface Open {
        double answer(IsleBoats x, int value);
    }

    public static void main(String[] args) {
        endsOfPier();
        endsOfBoat();
        endsOfSwell();
        endsOfBreakDownAndRelieve();
        endsOfSailing();
        endsOfBook();
        endsOfRate();
        endsOfPass();
        endsOfTide();
        endsOfBoatOf();
        endsOfSailingOf();
        endsOfAgainst();
        endsOfBookingOf();
        endsOfPlan();
        endsOfGap();
        Check.end();
    }

    /** Two piers, two boats, two sailings and two bookings: what is told next is number 2. */
    private static IsleBoats two() {
        IsleBoats x = new IsleBoats();
        for (int i = 0; i < 2; i++) {
            x.pier(100, 20, 0, true);
        }
        for (int i = 0; i < 2; i++) {
            x.boat(10, 20, 1000, 1000, 4, 3, 0);
        }
        for (int i = 0; i < 2; i++) {
            x.sailing(i, 0, 1, 400, 10, true);
        }
        for (int i = 0; i < 2; i++) {
            x.book(i, 1, 1, 1, 0, false, false);
        }
        return x;
    }

    private static void within(int least, int most, double answer, Open call) {
        Check.due(answer, () -> call.answer(two(), least));
        Check.due(answer, () -> call.answer(two(), most));
        beyond(ARGUMENT, least, most, call);
    }

    private static void existing(int count, double answer, Open call) {
        Check.due(answer, () -> call.answer(two(), 0));
        Check.due(answer, () -> call.answer(two(), count - 1));
        beyond(INDEX, 0, count - 1, call);
    }

    private static void beyond(Class<? extends RuntimeException> why, int least, int most, Open call) {
        Check.fails(why, () -> call.answer(two(), least - 1));
        Check.fails(why, () -> call.answer(two(), most + 1));
        Check.fails(why, () -> call.answer(two(), Integer.MIN_VALUE));
        Check.fails(why, () -> call.answer(two(), Integer.MAX_VALUE));
    }

    private static void endsOfPier() {
        within(0, 500, 2, (x, depth) -> x.pier(depth, 1, 1, true));
        within(0, 200, 2, (x, range) -> x.pier(1, range, 1, true));
        within(0, 719, 2, (x, phase) -> x.pier(1, 1, phase, true));
    }

    private static void endsOfBoat() {
        within(1, 500, 2, (x, draught) -> x.boat(draught, 1, 1, 1, 1, 1, 1));
        within(1, 200, 2, (x, length) -> x.boat(1, length, 1, 1, 1, 1, 1));
        within(1, 10000, 2, (x, weight) -> x.boat(1, 1, weight, 1, 1, 1, 1));
        within(0, 10000, 2, (x, trim) -> x.boat(1, 1, 1, trim, 1, 1, 1));
        within(0, 9, 2, (x, swell) -> x.boat(1, 1, 1, 1, swell, 1, 1));
        within(0, 255, 2, (x, piers) -> x.boat(1, 1, 1, 1, 1, piers, 1));
        existing(2, 2, (x, home) -> x.boat(1, 1, 1, 1, 1, 1, home));
    }

    private static void endsOfSwell() {
        existing(2, 0, (x, pier) -> x.swell(pier, 1));
        within(0, 9, 0, (x, swell) -> x.swell(1, swell));
    }

    private static void endsOfBreakDownAndRelieve() {
        existing(2, 1, (x, boat) -> x.breakDown(boat) ? 1 : 0);
        existing(2, 1, (x, boat) -> x.relieve(boat, other(boat)));
        existing(2, 1, (x, boat) -> x.relieve(other(boat), boat));
    }

    private static int other(int number) {
        return number == 0 ? 1 : 0;
    }

    private static void endsOfSailing() {
        existing(2, 2, (x, boat) -> x.sailing(boat, 0, 1, 1, 1, true));
        existing(2, 2, (x, from) -> x.sailing(0, from, other(from), 1, 1, true));
        existing(2, 2, (x, to) -> x.sailing(0, other(to), to, 1, 1, true));
        within(1, 20000, 2, (x, ahead) -> x.sailing(0, 0, 1, ahead, 1, true));
        within(1, 700, 2, (x, duration) -> x.sailing(0, 0, 1, 1, duration, true));
    }

    private static void endsOfBook() {
        existing(2, 2, (x, sailing) -> x.book(sailing, 1, 1, 1, 1, true, true));
        existing(3, 2, (x, kind) -> x.book(0, kind, 1, 1, 1, true, true));
        within(1, 30, 2, (x, length) -> x.book(0, 1, length, 1, 1, true, true));
        within(1, 1000, 2, (x, weight) -> x.book(0, 1, 1, weight, 1, true, true));
        within(0, 3, 2, (x, danger) -> x.book(0, 1, 1, 1, danger, true, true));
    }

    private static void endsOfRate() {
        existing(3, 100, (x, kind) -> x.rate(kind, 1));
        within(0, 10000, 100, (x, cents) -> x.rate(1, cents));
    }

    private static void endsOfPass() {
        Check.due(1, () -> two().pass(1));
        Check.due(1500, () -> two().pass(1500));
        beyond(ARGUMENT, 1, 1500, IsleBoats::pass);
    }

    private static void endsOfTide() {
        existing(2, 20, (x, pier) -> x.tide(pier, 720));
        Check.due(20, () -> two().tide(1, 0));
        // 1000000 is 640 beyond whole tides, and 640 is 280 away from 360: 20 times 100 by 180.
        Check.due(11, () -> two().tide(1, 1000000));
        beyond(ARGUMENT, 0, 1000000, (x, minute) -> x.tide(1, minute));
    }

    private static void endsOfBoatOf() {
        existing(2, 0, (x, boat) -> x.boatOf(boat, 0));
        within(0, 2, 0, (x, what) -> x.boatOf(1, what));
    }

    private static void endsOfSailingOf() {
        existing(2, 0, (x, sailing) -> x.sailingOf(sailing, 0));
        within(0, 6, 0, (x, what) -> x.sailingOf(1, what));
    }

    private static void endsOfAgainst() {
        existing(2, 0, IsleBoats::against);
    }

    private static void endsOfBookingOf() {
        existing(2, 0, (x, booking) -> x.bookingOf(booking, 0));
        within(0, 5, 0, (x, what) -> x.bookingOf(1, what));
    }

    private static void endsOfPlan() {
        existing(2, -1, (x, sailing) -> x.plan(sailing, 0, false));
        Check.due(-1, () -> two().plan(0, 0, true));
        Check.due(-1, () -> two().plan(0, Integer.MAX_VALUE, true));
        Check.fails(INDEX, () -> two().plan(0, -1, true));
        Check.fails(INDEX, () -> two().plan(0, Integer.MIN_VALUE, false));
    }

    private static void endsOfGap() {
        existing(2, 0, (x, pier) -> x.gap(pier, 0));
        within(0, 2, 0, (x, what) -> x.gap(1, what));
    }
}
