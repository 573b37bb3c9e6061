/** Promises 9 (rate), 18 (performance) and 19 (penalty), and the fare of promise 15. */
public final class MoneyTest {
    private static final Class<IndexOutOfBoundsException> INDEX = IndexOutOfBoundsException.class;
    private static final Class<IllegalArgumentException> ARGUMENT = IllegalArgumentException.class;

    public static void main(String[] args) {
        rates();
        fares();
        farePerState();
        performances();
        performanceWithoutAny();
        performanceOfAllOrNone();
        penalties();
        Check.end();
    }

    private static IsleBoats line() {
        IsleBoats x = new IsleBoats();
        x.pier(100, 0, 0, true);
        x.pier(100, 0, 0, true);
        x.boat(10, 200, 10000, 10000, 9, 3, 0);
        return x;
    }

    private static void rates() {
        IsleBoats x = new IsleBoats();
        Check.fails(INDEX, () -> x.rate(-1, 0));
        Check.fails(INDEX, () -> x.rate(3, 0));
        Check.fails(INDEX, () -> x.rate(3, -1));
        Check.fails(ARGUMENT, () -> x.rate(0, -1));
        Check.fails(ARGUMENT, () -> x.rate(2, 10001));
        Check.due(100, () -> x.rate(0, 10000));
        Check.due(100, () -> x.rate(1, 0));
        Check.due(100, () -> x.rate(2, 7));
        Check.due(10000, () -> x.rate(0, 1));
        Check.due(0, () -> x.rate(1, 1));
        Check.due(7, () -> x.rate(2, 1));
    }

    private static void fares() {
        IsleBoats x = line();
        x.sailing(0, 0, 1, 5, 10, true);
        x.book(0, 0, 7, 1, 0, false, false);
        x.book(0, 1, 7, 1, 0, false, false);
        x.book(0, 2, 30, 1, 0, false, true);
        x.pass(5);
        Check.due(350, () -> x.bookingOf(0, 5));
        Check.due(700, () -> x.bookingOf(1, 5));
        Check.due(3000, () -> x.bookingOf(2, 5));
        x.rate(0, 3);
        Check.due(10, () -> x.bookingOf(0, 5));
        Check.due(700, () -> x.bookingOf(1, 5));
        // The half of an islander is taken ahead of the most of a fare.
        x.rate(0, 1000);
        Check.due(3500, () -> x.bookingOf(0, 5));
        x.rate(0, 1429);
        Check.due(5000, () -> x.bookingOf(0, 5));
        x.rate(0, 1428);
        Check.due(4998, () -> x.bookingOf(0, 5));
        x.rate(2, 166);
        Check.due(4980, () -> x.bookingOf(2, 5));
        x.rate(2, 167);
        Check.due(5000, () -> x.bookingOf(2, 5));
        x.rate(2, 10000);
        Check.due(5000, () -> x.bookingOf(2, 5));
        x.rate(1, 0);
        Check.due(0, () -> x.bookingOf(1, 5));
    }

    private static void farePerState() {
        IsleBoats x = line();
        x.sailing(0, 0, 1, 5, 10, true);
        x.book(0, 1, 2, 1, 1, false, false);
        x.book(0, 1, 2, 1, 2, false, false);
        Check.due(0, () -> x.bookingOf(0, 5));
        x.pass(5);
        Check.due(200, () -> x.bookingOf(0, 5));
        Check.due(0, () -> x.bookingOf(1, 5));
        x.pass(10);
        Check.due(IsleBoats.LANDED, () -> x.bookingOf(0, 0));
        Check.due(200, () -> x.bookingOf(0, 5));
        x.rate(1, 300);
        Check.due(600, () -> x.bookingOf(0, 5));
        Check.due(0, () -> x.bookingOf(1, 5));
    }

    private static void performances() {
        IsleBoats x = line();
        Check.due(1.0, x::performance);
        x.sailing(0, 0, 1, 5, 10, true);
        x.sailing(0, 0, 1, 6, 10, false);
        x.sailing(0, 0, 1, 7, 10, true);
        x.sailing(0, 1, 0, 15, 10, true);
        x.sailing(0, 0, 1, 400, 10, true);
        Check.due(1.0, x::performance);
        x.pass(6);
        Check.due(IsleBoats.CANCELLED, () -> x.sailingOf(1, 0));
        Check.due(1.0, x::performance);
        Check.due(0, x::penalty);
        x.pass(1);
        Check.due(0.5, x::performance);
        Check.due(500, x::penalty);
        x.pass(8);
        Check.due(2.0 / 3.0, x::performance);
        Check.due(333, x::penalty);
        x.breakDown(0);
        x.pass(285);
        Check.due(IsleBoats.CANCELLED, () -> x.sailingOf(4, 0));
        Check.due(0.5, x::performance);
    }

    private static void performanceIs(IsleBoats x, double performance, int penalty) {
        Check.due(performance, x::performance);
        Check.due(penalty, x::penalty);
    }

    private static void performanceWithoutAny() {
        IsleBoats x = line();
        x.sailing(0, 1, 0, 5, 10, false);
        x.sailing(0, 0, 1, 5, 10, false);
        x.sailing(0, 1, 0, 400, 10, true);
        performanceIs(x, 1, 0);
        x.pass(5);
        // One is CANCELLED and one SAILS, neither a lifeline; the lifeline is PLANNED.
        Check.due(IsleBoats.CANCELLED, () -> x.sailingOf(0, 0));
        Check.due(IsleBoats.SAILS, () -> x.sailingOf(1, 0));
        performanceIs(x, 1, 0);
        x.pass(394);
        performanceIs(x, 1, 0);
    }

    private static void performanceOfAllOrNone() {
        IsleBoats x = line();
        x.sailing(0, 0, 1, 5, 10, true);
        x.sailing(0, 1, 0, 15, 10, true);
        x.pass(5);
        performanceIs(x, 1, 0);
        x.pass(20);
        performanceIs(x, 1, 0);
        IsleBoats y = line();
        y.sailing(0, 0, 1, 301, 10, true);
        y.breakDown(0);
        y.pass(299);
        performanceIs(y, 1, 0);
        y.pass(1);
        performanceIs(y, 0, 1000);
        y.sailing(0, 0, 1, 5, 10, true);
        performanceIs(y, 0, 1000);
        y.breakDown(0);
        y.pass(5);
        performanceIs(y, 0.5, 500);
    }

    private static IsleBoats lifelines(int held, int all) {
        IsleBoats x = line();
        for (int i = 0; i < all; i++) {
            x.sailing(0, i < held ? i % 2 : 1 - held % 2, i < held ? 1 - i % 2 : held % 2, 5 + i, 1, true);
        }
        x.pass(200);
        return x;
    }

    private static void penalties() {
        for (int all = 1; all <= 60; all++) {
            for (int held = 0; held <= all; held++) {
                IsleBoats x = lifelines(held, all);
                double performance = (double) held / (double) all;
                Check.due(performance, x::performance);
                Check.due(Math.floor(1000 * (1 - performance)), x::penalty);
            }
        }
        // As doubles: 1 less 0.9 is a little less than a tenth.
        Check.due(99, () -> lifelines(9, 10).penalty());
        Check.due(1000, () -> lifelines(0, 3).penalty());
        Check.due(666, () -> lifelines(1, 3).penalty());
    }
}
