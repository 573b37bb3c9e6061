/** Promises 8 (book), 15 (bookingOf) and 16 (plan): who comes aboard, and who is left behind. */
public final class BookingTest {
    private static final Class<IndexOutOfBoundsException> INDEX = IndexOutOfBoundsException.class;
    private static final Class<IllegalArgumentException> ARGUMENT = IllegalArgumentException.class;
    private static final Class<IllegalStateException> STATE = IllegalStateException.class;

    public static void main(String[] args) {
        argumentsOfBook();
        numbersAndLimits();
        argumentsOfBookingOf();
        argumentsOfPlan();
        lineAtTheRamp();
        pointsCountInTheLine();
        refusedForDanger();
        refusedForWeight();
        refusedForLength();
        refusedForTrim();
        sidesByWeight();
        otherSideIfOneCannotBe();
        nextSailing();
        nextSailingOfThisMinute();
        cancelledAtFive();
        cancelledTwiceAtFive();
        leftBehind();
        offInOrder();
        Check.end();
    }

    private static IsleBoats line(int length, int weight, int trim) {
        IsleBoats x = new IsleBoats();
        x.pier(100, 0, 0, true);
        x.pier(100, 0, 0, true);
        x.pier(100, 0, 0, true);
        x.boat(10, length, weight, trim, 4, 7, 0);
        return x;
    }

    private static int visitor(IsleBoats x, int sailing, int length, int weight) {
        return x.book(sailing, 2, length, weight, 0, false, false);
    }

    private static void argumentsOfBook() {
        IsleBoats x = line(20, 1000, 1000);
        Check.fails(INDEX, () -> x.book(0, 0, 1, 1, 0, true, true));
        x.sailing(0, 0, 1, 5, 10, true);
        Check.fails(INDEX, () -> x.book(-1, 0, 1, 1, 0, true, true));
        Check.fails(INDEX, () -> x.book(1, 0, 0, 1, 0, true, true));
        Check.fails(INDEX, () -> x.book(0, -1, 1, 1, 0, true, true));
        Check.fails(INDEX, () -> x.book(0, 3, 0, 0, -1, true, true));
        Check.fails(ARGUMENT, () -> x.book(0, 0, 0, 1, 0, true, true));
        Check.fails(ARGUMENT, () -> x.book(0, 0, 31, 1, 0, true, true));
        Check.fails(ARGUMENT, () -> x.book(0, 0, 1, 0, 0, true, true));
        Check.fails(ARGUMENT, () -> x.book(0, 0, 1, 1001, 0, true, true));
        Check.fails(ARGUMENT, () -> x.book(0, 0, 1, 1, -1, true, true));
        Check.fails(ARGUMENT, () -> x.book(0, 0, 1, 1, 4, true, true));
        Check.fails(INDEX, () -> x.bookingOf(0, 0));
        Check.due(0, () -> x.book(0, 0, 1, 1, 0, true, true));
        Check.due(1, () -> x.book(0, 2, 30, 1000, 3, false, false));
        x.pass(5);
        Check.fails(STATE, () -> x.book(0, 0, 1, 1, 0, true, true));
        Check.fails(ARGUMENT, () -> x.book(0, 0, 0, 1, 0, true, true));
        Check.fails(INDEX, () -> x.book(0, 3, 0, 1, 0, true, true));
        x.pass(10);
        Check.fails(STATE, () -> x.book(0, 0, 1, 1, 0, true, true));
        x.sailing(0, 0, 1, 5, 10, true);
        x.pass(5);
        Check.due(IsleBoats.CANCELLED, () -> x.sailingOf(1, 0));
        Check.fails(STATE, () -> x.book(1, 0, 1, 1, 0, true, true));
    }

    private static void numbersAndLimits() {
        IsleBoats x = line(20, 1000, 1000);
        x.sailing(0, 0, 1, 5, 10, true);
        for (int i = 0; i < 100; i++) {
            int number = i;
            Check.due(number, () -> x.book(0, 0, 1, 1, 0, false, false));
        }
        Check.fails(STATE, () -> x.book(0, 0, 1, 1, 0, false, false));
        Check.fails(ARGUMENT, () -> x.book(0, 0, 1, 1, 4, false, false));
        Check.fails(INDEX, () -> x.bookingOf(100, 0));
        x.pass(5);
        Check.due(40, () -> x.sailingOf(0, 3));
        Check.due(60, () -> x.sailingOf(0, 6));
        Check.due(39, () -> x.plan(0, 39, false));
        Check.due(-1, () -> x.plan(0, 40, false));
    }

    private static void argumentsOfBookingOf() {
        IsleBoats x = line(20, 1000, 1000);
        Check.fails(INDEX, () -> x.bookingOf(0, 6));
        x.sailing(0, 0, 1, 5, 10, true);
        x.book(0, 0, 1, 1, 0, false, false);
        Check.fails(INDEX, () -> x.bookingOf(-1, 0));
        Check.fails(INDEX, () -> x.bookingOf(1, -1));
        Check.fails(ARGUMENT, () -> x.bookingOf(0, -1));
        Check.fails(ARGUMENT, () -> x.bookingOf(0, 6));
        int[] first = {IsleBoats.WAITS, 0, 0, 0, -1, 0};
        for (int what = 0; what < 6; what++) {
            int asked = what;
            Check.due(first[asked], () -> x.bookingOf(0, asked));
        }
        x.pass(5);
        int[] aboard = {IsleBoats.ABOARD, 0, 0, 0, 0, 50};
        for (int what = 0; what < 6; what++) {
            int asked = what;
            Check.due(aboard[asked], () -> x.bookingOf(0, asked));
        }
    }

    private static void argumentsOfPlan() {
        IsleBoats x = line(20, 1000, 1000);
        Check.fails(INDEX, () -> x.plan(0, 0, true));
        x.sailing(0, 0, 1, 5, 10, true);
        x.book(0, 0, 1, 1, 0, false, false);
        Check.fails(INDEX, () -> x.plan(1, 0, true));
        Check.fails(INDEX, () -> x.plan(-1, 0, false));
        Check.fails(INDEX, () -> x.plan(0, -1, true));
        Check.fails(INDEX, () -> x.plan(0, Integer.MIN_VALUE, false));
        Check.due(-1, () -> x.plan(0, 0, true));
        Check.due(-1, () -> x.plan(0, 0, false));
        Check.due(-1, () -> x.plan(0, Integer.MAX_VALUE, false));
        x.pass(5);
        Check.due(0, () -> x.plan(0, 0, true));
        Check.due(0, () -> x.plan(0, 0, false));
        Check.due(-1, () -> x.plan(0, 1, true));
        Check.due(-1, () -> x.plan(0, Integer.MAX_VALUE, true));
    }

    private static void planIs(IsleBoats x, int sailing, boolean isOff, int... order) {
        for (int place = 0; place <= order.length; place++) {
            int asked = place;
            Check.due(asked < order.length ? order[asked] : -1, () -> x.plan(sailing, asked, isOff));
        }
    }

    private static void lineAtTheRamp() {
        IsleBoats x = line(100, 1000, 1000);
        x.sailing(0, 0, 1, 5, 10, true);
        x.book(0, 2, 1, 1, 0, false, false);
        x.book(0, 1, 1, 1, 0, false, true);
        x.book(0, 0, 1, 1, 0, false, false);
        x.book(0, 0, 1, 1, 0, false, true);
        x.book(0, 2, 1, 1, 0, true, false);
        x.book(0, 1, 1, 1, 0, true, false);
        x.book(0, 1, 1, 1, 0, true, false);
        x.book(0, 2, 1, 1, 0, false, false);
        x.pass(5);
        planIs(x, 0, false, 5, 6, 4, 2, 3, 1, 0, 7);
        planIs(x, 0, true, 1, 3, 7, 0, 2, 4, 6, 5);
    }

    private static void pointsCountInTheLine() {
        IsleBoats x = line(5, 1000, 1000);
        x.sailing(0, 1, 0, 5, 10, true);
        x.sailing(0, 1, 0, 6, 10, true);
        x.sailing(0, 1, 0, 7, 10, true);
        x.boat(10, 30, 1000, 1000, 4, 7, 1);
        x.sailing(1, 1, 0, 10, 10, true);
        x.book(3, 2, 1, 1, 0, false, false);
        x.book(1, 2, 1, 1, 0, false, false);
        x.book(2, 2, 1, 1, 0, false, false);
        x.book(0, 2, 1, 1, 0, false, false);
        x.book(0, 1, 1, 1, 0, false, false);
        x.book(3, 2, 1, 1, 0, true, false);
        x.book(0, 2, 1, 1, 0, false, false);
        x.book(3, 0, 1, 1, 0, false, false);
        x.pass(10);
        // Points: 0 of 0, 2 of 1, 1 of 2, 3 of 3, 3 of 4, 0 of 5, 3 of 6, 0 of 7.
        planIs(x, 3, false, 5, 7, 4, 3, 6, 1, 2, 0);
        Check.due(3, () -> x.bookingOf(3, 3));
        Check.due(1, () -> x.bookingOf(2, 3));
        Check.due(5, () -> x.bookingOf(2, 2));
        Check.due(0, () -> x.bookingOf(0, 2));
        Check.due(0, () -> x.sailingOf(3, 6));
        Check.due(0, () -> x.sailingOf(0, 6));
    }

    private static void refusedForDanger() {
        IsleBoats x = line(30, 100, 1000);
        x.sailing(0, 0, 1, 5, 10, true);
        x.book(0, 0, 1, 1, 0, false, false);
        x.book(0, 0, 1, 1, 2, false, false);
        x.book(0, 0, 1, 1, 1, false, false);
        x.book(0, 0, 1, 1, 2, false, false);
        x.book(0, 0, 1, 1, 3, false, false);
        x.book(0, 0, 1, 1, 0, false, false);
        // Against this one are the danger, the weight and the length.
        x.book(0, 1, 30, 1000, 1, false, false);
        x.pass(5);
        planIs(x, 0, false, 0, 1, 3, 5);
        Check.due(1, () -> x.bookingOf(2, 2));
        Check.due(1, () -> x.bookingOf(4, 2));
        Check.due(1, () -> x.bookingOf(6, 2));
        Check.due(3, () -> x.sailingOf(0, 6));
    }

    private static void refusedForWeight() {
        IsleBoats x = line(10, 100, 1000);
        x.sailing(0, 0, 1, 5, 10, true);
        visitor(x, 0, 1, 60);
        visitor(x, 0, 1, 41);
        visitor(x, 0, 1, 40);
        // Against this one are the weight and the length.
        visitor(x, 0, 11, 1);
        x.pass(5);
        planIs(x, 0, false, 0, 2);
        Check.due(2, () -> x.bookingOf(1, 2));
        Check.due(2, () -> x.bookingOf(3, 2));
        Check.due(-1, () -> x.bookingOf(3, 4));
    }

    private static void refusedForLength() {
        IsleBoats x = line(10, 100, 50);
        x.sailing(0, 0, 1, 5, 10, true);
        visitor(x, 0, 11, 1);
        visitor(x, 0, 7, 10);
        visitor(x, 0, 6, 10);
        // Against this one are the length and the trim.
        visitor(x, 0, 5, 60);
        visitor(x, 0, 4, 1);
        visitor(x, 0, 3, 1);
        visitor(x, 0, 1, 1);
        x.pass(5);
        planIs(x, 0, false, 1, 2, 4, 5);
        Check.due(3, () -> x.bookingOf(0, 2));
        Check.due(3, () -> x.bookingOf(3, 2));
        Check.due(3, () -> x.bookingOf(6, 2));
        Check.due(1, () -> x.bookingOf(4, 4));
        Check.due(0, () -> x.bookingOf(5, 4));
    }

    private static void refusedForTrim() {
        IsleBoats x = line(10, 1000, 50);
        x.sailing(0, 0, 1, 5, 10, true);
        visitor(x, 0, 1, 51);
        visitor(x, 0, 8, 50);
        visitor(x, 0, 1, 101);
        visitor(x, 0, 3, 20);
        visitor(x, 0, 1, 80);
        x.pass(5);
        planIs(x, 0, false, 1, 3, 4);
        Check.due(4, () -> x.bookingOf(0, 2));
        Check.due(4, () -> x.bookingOf(2, 2));
        Check.due(1, () -> x.bookingOf(3, 4));
        Check.due(IsleBoats.LEFT, () -> x.bookingOf(2, 0));
    }

    private static void sidesByWeight() {
        IsleBoats x = line(30, 1000, 1000);
        x.sailing(0, 0, 1, 5, 10, true);
        visitor(x, 0, 1, 30);
        visitor(x, 0, 1, 20);
        visitor(x, 0, 1, 10);
        visitor(x, 0, 1, 1);
        visitor(x, 0, 1, 1);
        x.pass(5);
        int[] sides = {0, 1, 1, 0, 1};
        for (int i = 0; i < sides.length; i++) {
            int number = i;
            Check.due(sides[number], () -> x.bookingOf(number, 4));
        }
        Check.due(31, () -> x.sailingOf(0, 4));
        Check.due(31, () -> x.sailingOf(0, 5));
        x.pass(10);
        Check.due(1, () -> x.bookingOf(4, 4));
    }

    private static void otherSideIfOneCannotBe() {
        IsleBoats x = line(10, 1000, 30);
        x.sailing(0, 0, 1, 5, 10, true);
        visitor(x, 0, 4, 20);
        visitor(x, 0, 10, 10);
        // The second side is lighter, but full.
        visitor(x, 0, 1, 20);
        visitor(x, 0, 1, 1);
        x.pass(5);
        planIs(x, 0, false, 0, 1, 2);
        Check.due(0, () -> x.bookingOf(2, 4));
        Check.due(4, () -> x.bookingOf(3, 2));
        Check.due(40, () -> x.sailingOf(0, 4));
        Check.due(10, () -> x.sailingOf(0, 5));
        firstSideFull();
    }

    private static void firstSideFull() {
        IsleBoats x = line(10, 1000, 30);
        x.sailing(0, 0, 1, 5, 10, true);
        visitor(x, 0, 10, 5);
        visitor(x, 0, 1, 10);
        visitor(x, 0, 1, 10);
        x.pass(5);
        Check.due(1, () -> x.bookingOf(2, 4));
        Check.due(5, () -> x.sailingOf(0, 4));
        Check.due(20, () -> x.sailingOf(0, 5));
    }

    private static void nextSailing() {
        IsleBoats x = line(10, 1000, 1000);
        x.sailing(0, 0, 1, 50, 10, true);
        x.sailing(0, 0, 1, 400, 10, true);
        x.sailing(0, 1, 0, 60, 10, true);
        x.sailing(0, 0, 2, 70, 10, true);
        x.sailing(0, 2, 1, 70, 10, true);
        x.sailing(0, 0, 1, 200, 10, true);
        x.sailing(0, 0, 1, 200, 10, true);
        x.sailing(0, 0, 1, 40, 10, true);
        visitor(x, 0, 11, 1);
        visitor(x, 7, 11, 1);
        x.pass(40);
        Check.due(3, () -> x.bookingOf(1, 2));
        Check.due(0, () -> x.bookingOf(1, 1));
        x.pass(10);
        Check.due(IsleBoats.CANCELLED, () -> x.sailingOf(0, 0));
        Check.due(5, () -> x.bookingOf(0, 2));
        Check.due(5, () -> x.bookingOf(0, 1));
        Check.due(5, () -> x.bookingOf(1, 1));
        Check.due(IsleBoats.WAITS, () -> x.bookingOf(1, 0));
        Check.due(2, () -> x.bookingOf(1, 3));
        x.pass(150);
        // Both of this minute are cancelled, for the boat lies elsewhere, one after the other.
        Check.due(1, () -> x.bookingOf(0, 1));
        Check.due(3, () -> x.bookingOf(0, 3));
        x.pass(200);
        Check.due(IsleBoats.LEFT, () -> x.bookingOf(0, 0));
        Check.due(1, () -> x.bookingOf(0, 1));
        Check.due(0, () -> x.bookingOf(0, 5));
    }

    private static void nextSailingOfThisMinute() {
        IsleBoats x = line(5, 1000, 1000);
        x.boat(10, 30, 1000, 1000, 4, 7, 0);
        x.sailing(1, 0, 1, 50, 10, true);
        x.sailing(0, 0, 1, 50, 10, true);
        x.sailing(1, 0, 1, 50, 10, true);
        visitor(x, 1, 6, 1);
        x.pass(50);
        // The first one sails already; the third one is planned yet, and cancelled at once.
        Check.due(2, () -> x.bookingOf(0, 1));
        Check.due(2, () -> x.bookingOf(0, 3));
        Check.due(5, () -> x.bookingOf(0, 2));
        Check.due(IsleBoats.LEFT, () -> x.bookingOf(0, 0));
        IsleBoats y = line(5, 1000, 1000);
        y.boat(10, 30, 1000, 1000, 4, 7, 0);
        y.sailing(0, 0, 1, 50, 10, true);
        y.sailing(1, 0, 1, 50, 10, true);
        visitor(y, 0, 6, 1);
        y.pass(50);
        Check.due(IsleBoats.ABOARD, () -> y.bookingOf(0, 0));
        Check.due(1, () -> y.bookingOf(0, 1));
        Check.due(3, () -> y.bookingOf(0, 2));
    }

    private static void cancelledAtFive() {
        IsleBoats x = line(10, 1000, 1000);
        x.sailing(0, 0, 1, 400, 10, true);
        x.boat(10, 10, 1000, 1000, 9, 7, 0);
        x.sailing(1, 0, 1, 500, 10, true);
        visitor(x, 0, 1, 1);
        visitor(x, 1, 1, 1);
        x.swell(1, 5);
        x.pass(300);
        Check.due(IsleBoats.CANCELLED, () -> x.sailingOf(0, 0));
        Check.due(0, () -> x.sailingOf(0, 6));
        Check.due(1, () -> x.bookingOf(0, 1));
        Check.due(1, () -> x.bookingOf(0, 3));
        Check.due(5, () -> x.bookingOf(0, 2));
        Check.due(IsleBoats.WAITS, () -> x.bookingOf(0, 0));
        Check.due(0, () -> x.bookingOf(1, 3));
        x.pass(200);
        planIs(x, 1, false, 0, 1);
        Check.due(5, () -> x.bookingOf(0, 2));
    }

    private static void cancelledTwiceAtFive() {
        IsleBoats x = line(10, 1000, 1000);
        x.sailing(0, 0, 1, 600, 10, true);
        x.sailing(0, 0, 1, 500, 10, true);
        visitor(x, 0, 1, 1);
        visitor(x, 1, 1, 1);
        x.breakDown(0);
        x.pass(300);
        // The first one goes over to the second sailing, and is there as that is cancelled.
        Check.due(2, () -> x.bookingOf(0, 3));
        Check.due(1, () -> x.bookingOf(1, 3));
        Check.due(1, () -> x.bookingOf(0, 1));
        Check.due(IsleBoats.LEFT, () -> x.bookingOf(0, 0));
        Check.due(IsleBoats.LEFT, () -> x.bookingOf(1, 0));
    }

    private static void leftBehind() {
        IsleBoats x = line(10, 1000, 1000);
        x.sailing(0, 0, 1, 5, 10, true);
        visitor(x, 0, 11, 1);
        x.pass(5);
        int[] left = {IsleBoats.LEFT, 0, 3, 1, -1, 0};
        for (int what = 0; what < 6; what++) {
            int asked = what;
            Check.due(left[asked], () -> x.bookingOf(0, asked));
        }
        x.sailing(0, 0, 1, 50, 10, true);
        x.pass(50);
        // Who is left does not come back.
        Check.due(0, () -> x.bookingOf(0, 1));
        Check.due(1, () -> x.bookingOf(0, 3));
    }

    private static void offInOrder() {
        IsleBoats x = line(30, 1000, 1000);
        x.sailing(0, 0, 1, 5, 10, true);
        x.book(0, 2, 1, 1, 0, false, true);
        x.book(0, 2, 1, 1, 0, false, false);
        x.book(0, 2, 1, 1, 0, false, false);
        x.book(0, 2, 1, 1, 0, false, true);
        x.book(0, 2, 1, 1, 0, false, false);
        x.book(0, 2, 1, 1, 0, false, true);
        x.book(0, 2, 31 - 1, 1, 0, false, true);
        x.pass(14);
        Check.due(IsleBoats.ABOARD, () -> x.bookingOf(0, 0));
        planIs(x, 0, true, 5, 3, 0, 4, 2, 1);
        planIs(x, 0, false, 0, 1, 2, 3, 4, 5);
        x.pass(1);
        planIs(x, 0, true, 5, 3, 0, 4, 2, 1);
        planIs(x, 0, false, 0, 1, 2, 3, 4, 5);
        for (int i = 0; i < 6; i++) {
            int number = i;
            Check.due(IsleBoats.LANDED, () -> x.bookingOf(number, 0));
        }
        Check.due(IsleBoats.LEFT, () -> x.bookingOf(6, 0));
    }
}
