/** Promises 1 (a new object), 2 (pier), 4 (swell) and 11 (tide). */
public final class PierTest {
    private static final Class<IndexOutOfBoundsException> INDEX = IndexOutOfBoundsException.class;
    private static final Class<IllegalArgumentException> ARGUMENT = IllegalArgumentException.class;
    private static final Class<IllegalStateException> STATE = IllegalStateException.class;

    public static void main(String[] args) {
        newObject();
        constants();
        numbersAndLimits();
        argumentsOfPier();
        swells();
        tides();
        argumentsOfTide();
        Check.end();
    }

    private static void newObject() {
        IsleBoats x = new IsleBoats();
        Check.fails(INDEX, () -> x.gap(0, 0));
        Check.fails(INDEX, () -> x.tide(0, 0));
        Check.fails(INDEX, () -> x.boatOf(0, 0));
        Check.fails(INDEX, () -> x.sailingOf(0, 0));
        Check.fails(INDEX, () -> x.bookingOf(0, 0));
        Check.due(1.0, x::performance);
        Check.due(0, x::penalty);
        Check.due(1, () -> x.pass(1));
        Check.due(100, () -> x.rate(0, 1));
        Check.due(100, () -> x.rate(1, 2));
        Check.due(100, () -> x.rate(2, 3));
    }

    private static void constants() {
        Check.due(-1, () -> IsleBoats.NONE);
        Check.due(0, () -> IsleBoats.PLANNED);
        Check.due(1, () -> IsleBoats.SAILS);
        Check.due(2, () -> IsleBoats.ARRIVED);
        Check.due(3, () -> IsleBoats.CANCELLED);
        Check.due(0, () -> IsleBoats.WAITS);
        Check.due(1, () -> IsleBoats.ABOARD);
        Check.due(2, () -> IsleBoats.LANDED);
        Check.due(3, () -> IsleBoats.LEFT);
    }

    private static void numbersAndLimits() {
        IsleBoats x = new IsleBoats();
        for (int i = 0; i < 8; i++) {
            int number = i;
            Check.due(number, () -> x.pier(number, number, number, number % 2 == 0));
        }
        Check.fails(STATE, () -> x.pier(1, 1, 1, true));
        Check.fails(ARGUMENT, () -> x.pier(-1, 1, 1, true));
        Check.due(7, () -> x.tide(7, 713));
        Check.fails(INDEX, () -> x.tide(8, 713));
    }

    private static void argumentsOfPier() {
        IsleBoats x = new IsleBoats();
        Check.fails(ARGUMENT, () -> x.pier(-1, 0, 0, true));
        Check.fails(ARGUMENT, () -> x.pier(501, 0, 0, true));
        Check.fails(ARGUMENT, () -> x.pier(0, -1, 0, true));
        Check.fails(ARGUMENT, () -> x.pier(0, 201, 0, true));
        Check.fails(ARGUMENT, () -> x.pier(0, 0, -1, true));
        Check.fails(ARGUMENT, () -> x.pier(0, 0, 720, true));
        Check.fails(ARGUMENT, () -> x.pier(Integer.MAX_VALUE, 0, 0, true));
        Check.fails(ARGUMENT, () -> x.pier(0, Integer.MIN_VALUE, 0, true));
        Check.fails(INDEX, () -> x.gap(0, 0));
        Check.due(0, () -> x.pier(0, 0, 0, false));
        Check.due(1, () -> x.pier(500, 200, 719, true));
    }

    private static void swells() {
        IsleBoats x = new IsleBoats();
        Check.fails(INDEX, () -> x.swell(0, 0));
        Check.fails(INDEX, () -> x.swell(0, 10));
        x.pier(10, 0, 0, true);
        x.pier(10, 0, 0, true);
        Check.due(0, () -> x.swell(1, 9));
        Check.due(0, () -> x.swell(0, 3));
        Check.due(9, () -> x.swell(1, 0));
        Check.due(0, () -> x.swell(1, 1));
        Check.due(3, () -> x.swell(0, 3));
        Check.fails(ARGUMENT, () -> x.swell(0, -1));
        Check.fails(ARGUMENT, () -> x.swell(0, 10));
        Check.fails(INDEX, () -> x.swell(-1, 10));
        Check.fails(INDEX, () -> x.swell(2, 0));
        Check.due(3, () -> x.swell(0, 4));
    }

    private static void tides() {
        IsleBoats x = new IsleBoats();
        x.pier(50, 200, 0, true);
        x.pier(50, 7, 719, true);
        x.pier(50, 0, 100, true);
        Check.due(200, () -> x.tide(0, 0));
        Check.due(198, () -> x.tide(0, 1));
        Check.due(1, () -> x.tide(0, 179));
        Check.due(0, () -> x.tide(0, 180));
        Check.due(-1, () -> x.tide(0, 181));
        Check.due(-200, () -> x.tide(0, 360));
        Check.due(-198, () -> x.tide(0, 361));
        Check.due(200, () -> x.tide(0, 720));
        Check.due(198, () -> x.tide(0, 719));
        Check.due(6, () -> x.tide(1, 0));
        Check.due(7, () -> x.tide(1, 1));
        Check.due(-6, () -> x.tide(1, 360));
        Check.due(0, () -> x.tide(1, 160));
        Check.due(0, () -> x.tide(1, 200));
        Check.due(0, () -> x.tide(2, 77));
        // 1000000 is 640 beyond a whole number of tides, and 640 is 280 away from 360.
        Check.due(111, () -> x.tide(0, 1000000));
        x.pass(360);
        Check.due(200, () -> x.tide(0, 0));
    }

    private static void argumentsOfTide() {
        IsleBoats x = new IsleBoats();
        x.pier(50, 20, 0, true);
        Check.fails(ARGUMENT, () -> x.tide(0, -1));
        Check.fails(ARGUMENT, () -> x.tide(0, 1000001));
        Check.fails(INDEX, () -> x.tide(1, -1));
        Check.fails(INDEX, () -> x.tide(-1, 0));
        Check.fails(INDEX, () -> x.tide(Integer.MAX_VALUE, 0));
    }
}
