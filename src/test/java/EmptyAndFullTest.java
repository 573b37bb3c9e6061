/** The empty object, and the full one: at most 8 piers, 6 boats, 60 sailings and 100 bookings, and 512 calls. */
public final class EmptyAndFullTest {
    private static final Class<IndexOutOfBoundsException> INDEX = IndexOutOfBoundsException.class;
    private static final Class<IllegalStateException> STATE = IllegalStateException.class;

    public static void main(String[] args) {
        nothingIsThereAtFirst();
        timePassesWithNothing();
        piersWithoutBoats();
        boatsWithoutSailings();
        sailingWithoutBookings();
        eightPiers();
        sixBoats();
        sixtySailings();
        hundredBookings();
        whatEndedCountsToo();
        objectsAreApart();
        the512thCall();
        Check.end();
    }

    private static IsleBoats line(int piers, int boats) {
        IsleBoats x = new IsleBoats();
        for (int i = 0; i < piers; i++) {
            x.pier(100, 0, 0, true);
        }
        for (int i = 0; i < boats; i++) {
            x.boat(10, 200, 10000, 10000, 4, 255, 0);
        }
        return x;
    }

    private static void nothingIsThereAtFirst() {
        IsleBoats x = new IsleBoats();
        Check.fails(INDEX, () -> x.boat(1, 1, 1, 1, 1, 1, 0));
        Check.fails(INDEX, () -> x.swell(0, 0));
        Check.fails(INDEX, () -> x.breakDown(0) ? 1 : 0);
        Check.fails(INDEX, () -> x.relieve(0, 1));
        Check.fails(INDEX, () -> x.sailing(0, 0, 1, 1, 1, true));
        Check.fails(INDEX, () -> x.book(0, 0, 1, 1, 0, true, true));
        Check.fails(INDEX, () -> x.tide(0, 0));
        Check.fails(INDEX, () -> x.boatOf(0, 0));
        Check.fails(INDEX, () -> x.sailingOf(0, 0));
        Check.fails(INDEX, () -> x.against(0));
        Check.fails(INDEX, () -> x.bookingOf(0, 0));
        Check.fails(INDEX, () -> x.plan(0, 0, true));
        Check.fails(INDEX, () -> x.plan(0, 0, false));
        Check.fails(INDEX, () -> x.gap(0, 0));
        Check.due(1.0, x::performance);
        Check.due(0, x::penalty);
        for (int kind = 0; kind < 3; kind++) {
            int asked = kind;
            Check.due(100, () -> x.rate(asked, 100));
        }
    }

    private static void timePassesWithNothing() {
        IsleBoats x = new IsleBoats();
        for (int i = 1; i <= 20; i++) {
            int minute = 1500 * i;
            Check.due(minute, () -> x.pass(1500));
        }
        Check.due(1.0, x::performance);
        Check.due(0, () -> x.pier(0, 0, 0, false));
        Check.due(30000, () -> x.gap(0, 0));
    }

    private static void piersWithoutBoats() {
        IsleBoats x = line(2, 0);
        Check.fails(INDEX, () -> x.sailing(0, 0, 1, 1, 1, true));
        Check.fails(INDEX, () -> x.boatOf(0, 0));
        x.pass(300);
        Check.due(300, () -> x.gap(1, 1));
        Check.due(0, () -> x.gap(1, 2));
    }

    private static void boatsWithoutSailings() {
        IsleBoats x = line(2, 2);
        Check.due(0, () -> x.relieve(0, 1));
        Check.due(0, () -> x.boatOf(0, 2));
        x.pass(300);
        Check.due(0, () -> x.boatOf(0, 0));
        Check.due(0, () -> x.boatOf(0, 2));
        Check.fails(INDEX, () -> x.sailingOf(0, 0));
    }

    private static void sailingWithoutBookings() {
        IsleBoats x = line(2, 1);
        x.sailing(0, 0, 1, 5, 5, true);
        x.sailing(0, 0, 1, 5, 5, true);
        x.pass(10);
        Check.due(IsleBoats.ARRIVED, () -> x.sailingOf(0, 0));
        Check.due(IsleBoats.CANCELLED, () -> x.sailingOf(1, 0));
        for (int what = 3; what <= 6; what++) {
            int asked = what;
            Check.due(0, () -> x.sailingOf(0, asked));
            Check.due(0, () -> x.sailingOf(1, asked));
        }
        Check.due(-1, () -> x.plan(0, 0, true));
        Check.due(-1, () -> x.plan(0, 0, false));
        Check.due(-1, () -> x.plan(1, 0, true));
    }

    private static void eightPiers() {
        IsleBoats x = line(7, 1);
        Check.due(7, () -> x.pier(100, 0, 0, true));
        Check.fails(STATE, () -> x.pier(100, 0, 0, true));
        Check.fails(STATE, () -> x.pier(100, 0, 0, true));
        Check.fails(INDEX, () -> x.gap(8, 0));
        Check.due(0, () -> x.sailing(0, 0, 7, 5, 5, true));
        x.pass(10);
        Check.due(7, () -> x.boatOf(0, 0));
    }

    private static void sixBoats() {
        IsleBoats x = line(2, 5);
        Check.due(5, () -> x.boat(10, 200, 10000, 10000, 4, 255, 1));
        Check.fails(STATE, () -> x.boat(10, 200, 10000, 10000, 4, 255, 1));
        Check.fails(INDEX, () -> x.boatOf(6, 0));
        Check.fails(INDEX, () -> x.sailing(6, 0, 1, 1, 1, true));
        Check.due(0, () -> x.sailing(5, 1, 0, 5, 5, true));
        x.pass(10);
        Check.due(0, () -> x.boatOf(5, 0));
    }

    private static void sixtySailings() {
        IsleBoats x = line(2, 1);
        for (int i = 0; i < 59; i++) {
            x.sailing(0, 0, 1, 400, 1, true);
        }
        Check.due(59, () -> x.sailing(0, 0, 1, 5, 5, true));
        Check.fails(STATE, () -> x.sailing(0, 0, 1, 5, 5, true));
        Check.fails(INDEX, () -> x.sailingOf(60, 0));
        Check.fails(INDEX, () -> x.book(60, 0, 1, 1, 0, true, true));
        x.pass(10);
        Check.due(IsleBoats.ARRIVED, () -> x.sailingOf(59, 0));
        x.pass(390);
        Check.due(1.0 / 60.0, x::performance);
        Check.due(983, x::penalty);
    }

    private static void hundredBookings() {
        IsleBoats x = line(2, 1);
        x.sailing(0, 0, 1, 5, 5, true);
        for (int i = 0; i < 99; i++) {
            x.book(0, 0, 1, 1, 0, false, false);
        }
        Check.due(99, () -> x.book(0, 2, 1, 1, 0, false, true));
        Check.fails(STATE, () -> x.book(0, 0, 1, 1, 0, false, false));
        Check.fails(INDEX, () -> x.bookingOf(100, 0));
        x.pass(5);
        Check.due(100, () -> x.sailingOf(0, 3));
        Check.due(0, () -> x.sailingOf(0, 6));
        Check.due(50, () -> x.sailingOf(0, 4));
        Check.due(50, () -> x.sailingOf(0, 5));
        Check.due(99, () -> x.plan(0, 99, false));
        Check.due(-1, () -> x.plan(0, 100, false));
        Check.due(99, () -> x.plan(0, 0, true));
        Check.due(98, () -> x.plan(0, 1, true));
        Check.due(0, () -> x.plan(0, 99, true));
        Check.due(-1, () -> x.plan(0, 100, true));
    }

    private static void whatEndedCountsToo() {
        IsleBoats x = line(2, 1);
        for (int i = 0; i < 60; i++) {
            x.sailing(0, i % 2, 1 - i % 2, 5 + 5 * i, 5, true);
        }
        for (int i = 0; i < 100; i++) {
            x.book(i % 50, 0, 1, 1, 0, false, false);
        }
        x.pass(295);
        Check.due(IsleBoats.LANDED, () -> x.bookingOf(99, 0));
        Check.due(IsleBoats.SAILS, () -> x.sailingOf(58, 0));
        Check.due(IsleBoats.PLANNED, () -> x.sailingOf(59, 0));
        Check.fails(STATE, () -> x.book(59, 0, 1, 1, 0, false, false));
        Check.fails(STATE, () -> x.sailing(0, 0, 1, 5, 5, true));
    }

    private static void objectsAreApart() {
        IsleBoats x = line(2, 1);
        IsleBoats y = new IsleBoats();
        x.rate(1, 7);
        x.pass(400);
        Check.due(100, () -> y.rate(1, 3));
        Check.due(1, () -> y.pass(1));
        Check.fails(INDEX, () -> y.gap(0, 0));
        Check.due(7, () -> x.rate(1, 7));
    }

    private static void the512thCall() {
        IsleBoats x = line(2, 1);
        for (int i = 3; i < 511; i++) {
            x.pass(1500);
        }
        Check.due(508 * 1500, () -> x.gap(1, 1));
        IsleBoats y = line(2, 1);
        y.sailing(0, 0, 1, 1, 1, true);
        for (int i = 4; i < 511; i++) {
            y.pass(1500);
        }
        Check.due(508 * 1500, () -> y.pass(1500));
    }
}
