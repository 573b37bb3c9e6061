/** The boundaries of loading, of who is left behind, and of the fare (promises 8, 15 and 16). */
public final class LoadingEdgeTest {
    private static final int DANGER = 1, WEIGHT = 2, LENGTH = 3, TRIM = 4, CANCELLED = 5;

    public static void main(String[] args) {
        weightToTheLast();
        lengthToTheLast();
        trimToTheLast();
        trimOfNothing();
        dangersOfAKind();
        dangerBehindNone();
        dangerThatIsNotAboard();
        firstReasonOfTwo();
        likeSidesTakeTheFirst();
        fullSideGivesWay();
        fullSideAndTrim();
        urgencyAheadOfClass();
        classAheadOfPoints();
        pointsAheadOfNumbers();
        onlyWhoWaits();
        nextIsTheEarliest();
        nextIsTheLowestOfLikeOnes();
        nextOfThisMinute();
        nextAtFiveMayBeLower();
        nextMustBePlanned();
        leftWithoutNext();
        lorriesFirstOff();
        faresToTheLast();
        Check.end();
    }

    /** Two ways of 3 piers and two boats, at pier 0; the second boat is large. */
    private static IsleBoats line(int length, int weight, int trim) {
        IsleBoats x = new IsleBoats();
        for (int i = 0; i < 3; i++) {
            x.pier(500, 0, 0, true);
        }
        x.boat(1, length, weight, trim, 4, 7, 0);
        x.boat(1, 200, 10000, 10000, 9, 7, 0);
        return x;
    }

    private static IsleBoats sailingAt5(int length, int weight, int trim) {
        IsleBoats x = line(length, weight, trim);
        x.sailing(0, 0, 1, 5, 10, true);
        return x;
    }

    private static void plain(IsleBoats x, int sailing, int length, int weight) {
        x.book(sailing, 1, length, weight, 0, false, false);
    }

    private static void aboard(IsleBoats x, int booking, int side) {
        Check.due(IsleBoats.ABOARD, () -> x.bookingOf(booking, 0));
        Check.due(side, () -> x.bookingOf(booking, 4));
        Check.due(0, () -> x.bookingOf(booking, 2));
    }

    private static void left(IsleBoats x, int booking, int reason) {
        Check.due(IsleBoats.LEFT, () -> x.bookingOf(booking, 0));
        Check.due(reason, () -> x.bookingOf(booking, 2));
        Check.due(-1, () -> x.bookingOf(booking, 4));
        Check.due(0, () -> x.bookingOf(booking, 5));
    }

    private static void order(IsleBoats x, int sailing, boolean isOff, int... due) {
        for (int i = 0; i <= due.length; i++) {
            int place = i;
            Check.due(place < due.length ? due[place] : -1, () -> x.plan(sailing, place, isOff));
        }
    }

    private static void weightToTheLast() {
        IsleBoats x = sailingAt5(200, 10000, 10000);
        for (int i = 0; i < 9; i++) {
            plain(x, 0, 1, 1000);
        }
        plain(x, 0, 1, 999);
        plain(x, 0, 1, 2);
        plain(x, 0, 1, 1);
        plain(x, 0, 1, 1);
        x.pass(5);
        left(x, 10, WEIGHT);
        Check.due(IsleBoats.ABOARD, () -> x.bookingOf(11, 0));
        left(x, 12, WEIGHT);
        Check.due(10000, () -> x.sailingOf(0, 4) + x.sailingOf(0, 5));
        IsleBoats y = sailingAt5(200, 1, 10000);
        plain(y, 0, 1, 2);
        plain(y, 0, 1, 1);
        y.pass(5);
        left(y, 0, WEIGHT);
        aboard(y, 1, 0);
    }

    private static void lengthToTheLast() {
        IsleBoats x = sailingAt5(200, 10000, 10000);
        for (int i = 0; i < 12; i++) {
            plain(x, 0, 30, 1);
        }
        plain(x, 0, 21, 1);
        plain(x, 0, 20, 1);
        plain(x, 0, 21, 1);
        plain(x, 0, 20, 1);
        plain(x, 0, 1, 1);
        x.pass(5);
        left(x, 12, LENGTH);
        aboard(x, 13, 0);
        left(x, 14, LENGTH);
        aboard(x, 15, 1);
        left(x, 16, LENGTH);
        Check.due(14, () -> x.sailingOf(0, 3));
        Check.due(3, () -> x.sailingOf(0, 6));
        IsleBoats y = sailingAt5(1, 10000, 10000);
        plain(y, 0, 2, 1);
        plain(y, 0, 1, 1);
        y.pass(5);
        left(y, 0, LENGTH);
        aboard(y, 1, 0);
    }

    private static void trimToTheLast() {
        IsleBoats x = sailingAt5(200, 10000, 7);
        plain(x, 0, 1, 8);
        plain(x, 0, 1, 7);
        plain(x, 0, 1, 15);
        plain(x, 0, 1, 14);
        x.pass(5);
        left(x, 0, TRIM);
        aboard(x, 1, 0);
        left(x, 2, TRIM);
        aboard(x, 3, 1);
        Check.due(7, () -> x.sailingOf(0, 4));
        Check.due(14, () -> x.sailingOf(0, 5));
    }

    private static void trimOfNothing() {
        IsleBoats x = sailingAt5(200, 10000, 0);
        plain(x, 0, 1, 1);
        plain(x, 0, 1, 1);
        x.pass(5);
        left(x, 0, TRIM);
        left(x, 1, TRIM);
        Check.due(0, () -> x.sailingOf(0, 3));
        Check.due(2, () -> x.sailingOf(0, 6));
        IsleBoats y = sailingAt5(200, 10000, 1);
        plain(y, 0, 1, 1);
        plain(y, 0, 1, 2);
        plain(y, 0, 1, 3);
        y.pass(5);
        aboard(y, 0, 0);
        aboard(y, 1, 1);
        left(y, 2, TRIM);
    }

    private static void dangersOfAKind() {
        for (int first = 0; first <= 3; first++) {
            for (int second = 0; second <= 3; second++) {
                IsleBoats x = sailingAt5(200, 10000, 10000);
                x.book(0, 1, 1, 1, first, false, false);
                x.book(0, 1, 1, 1, second, false, false);
                x.pass(5);
                boolean isDanger = first != 0 && second != 0 && first != second;
                int due = isDanger ? DANGER : 0;
                Check.due(due, () -> x.bookingOf(1, 2));
                Check.due(isDanger ? IsleBoats.LEFT : IsleBoats.ABOARD, () -> x.bookingOf(1, 0));
            }
        }
    }

    private static void dangerBehindNone() {
        IsleBoats x = sailingAt5(200, 10000, 10000);
        int[] dangers = {0, 3, 0, 1, 3, 0};
        for (int danger : dangers) {
            x.book(0, 1, 1, 1, danger, false, false);
        }
        x.pass(5);
        left(x, 3, DANGER);
        order(x, 0, false, 0, 1, 2, 4, 5);
    }

    private static void dangerThatIsNotAboard() {
        IsleBoats x = sailingAt5(200, 100, 10000);
        // The first danger is too heavy, so that it hinders nobody; nor does one aboard another sailing.
        x.sailing(1, 0, 2, 5, 10, true);
        x.book(0, 1, 1, 101, 1, false, false);
        x.book(1, 1, 1, 1, 3, false, false);
        x.book(0, 1, 1, 1, 2, false, false);
        x.pass(5);
        left(x, 0, WEIGHT);
        aboard(x, 1, 0);
        aboard(x, 2, 0);
    }

    private static void firstReasonOfTwo() {
        // Aboard is one of danger 1, length 5 and weight 50; what comes then has all reasons from the told one on.
        int[][] asked = {{6, 151, 2, DANGER}, {5, 100, 2, DANGER}, {6, 151, 0, WEIGHT}, {6, 150, 1, LENGTH},
            {5, 150, 1, TRIM}, {5, 100, 1, 0}};
        for (int[] one : asked) {
            IsleBoats x = sailingAt5(5, 200, 50);
            x.book(0, 0, 5, 50, 1, false, false);
            x.book(0, 1, one[0], one[1], one[2], false, false);
            x.pass(5);
            Check.due(one[3], () -> x.bookingOf(1, 2));
            Check.due(one[3] == 0 ? IsleBoats.ABOARD : IsleBoats.LEFT, () -> x.bookingOf(1, 0));
        }
        IsleBoats y = sailingAt5(5, 100, 49);
        plain(y, 0, 6, 101);
        plain(y, 0, 6, 100);
        plain(y, 0, 5, 100);
        plain(y, 0, 5, 50);
        plain(y, 0, 5, 49);
        y.pass(5);
        left(y, 0, WEIGHT);
        left(y, 1, LENGTH);
        left(y, 2, TRIM);
        left(y, 3, TRIM);
        aboard(y, 4, 0);
    }

    private static void likeSidesTakeTheFirst() {
        IsleBoats x = sailingAt5(200, 10000, 10000);
        int[] weights = {5, 5, 3, 4, 1, 2, 2};
        int[] sides = {0, 1, 0, 1, 0, 0, 1};
        for (int weight : weights) {
            plain(x, 0, 1, weight);
        }
        x.pass(5);
        // Sides: 5 and 0, 5 and 5, 8 and 5, 8 and 9, 9 and 9, 11 and 9, 11 and 11.
        for (int i = 0; i < sides.length; i++) {
            aboard(x, i, sides[i]);
        }
        Check.due(11, () -> x.sailingOf(0, 4));
        Check.due(11, () -> x.sailingOf(0, 5));
    }

    private static void fullSideGivesWay() {
        IsleBoats x = sailingAt5(10, 10000, 100);
        plain(x, 0, 10, 10);
        plain(x, 0, 4, 20);
        plain(x, 0, 6, 80);
        x.pass(5);
        // Side 0 is lighter each time, and full; the difference on side 1 is then 90.
        aboard(x, 0, 0);
        aboard(x, 1, 1);
        aboard(x, 2, 1);
        IsleBoats y = sailingAt5(10, 10000, 100);
        plain(y, 0, 1, 50);
        plain(y, 0, 10, 10);
        plain(y, 0, 9, 60);
        y.pass(5);
        aboard(y, 0, 0);
        aboard(y, 1, 1);
        aboard(y, 2, 0);
    }

    private static void fullSideAndTrim() {
        IsleBoats x = sailingAt5(10, 10000, 100);
        plain(x, 0, 10, 10);
        plain(x, 0, 4, 20);
        plain(x, 0, 6, 91);
        plain(x, 0, 7, 1);
        plain(x, 0, 6, 90);
        x.pass(5);
        // The side that has less weight is full, and on the other one the trim is missed by 1; then it is met.
        left(x, 2, TRIM);
        left(x, 3, LENGTH);
        aboard(x, 4, 1);
    }

    private static void urgencyAheadOfClass() {
        IsleBoats x = sailingAt5(200, 10000, 10000);
        x.book(0, 0, 1, 1, 0, false, false);
        x.book(0, 2, 1, 1, 0, true, false);
        x.book(0, 1, 1, 1, 0, false, false);
        x.book(0, 1, 1, 1, 0, true, false);
        x.pass(5);
        order(x, 0, false, 3, 1, 0, 2);
    }

    /** A point each for who was booked for a sailing of boat 0 from pier 1, where it does not lie. */
    private static IsleBoats pointsFor(int... kinds) {
        IsleBoats x = line(200, 10000, 10000);
        x.sailing(0, 1, 2, 5, 10, true);
        x.sailing(1, 0, 1, 7, 10, true);
        x.sailing(1, 1, 2, 20, 10, true);
        x.book(2, kinds[0], 1, 1, 0, false, false);
        x.book(0, kinds[1], 1, 1, 0, false, false);
        x.book(2, kinds[2], 1, 1, 0, false, false);
        x.book(0, kinds[3], 1, 1, 0, false, false);
        x.pass(20);
        return x;
    }

    private static void classAheadOfPoints() {
        order(pointsFor(1, 2, 1, 2), 2, false, 0, 2, 1, 3);
        order(pointsFor(0, 1, 1, 2), 2, false, 0, 1, 2, 3);
    }

    private static void pointsAheadOfNumbers() {
        IsleBoats x = pointsFor(1, 1, 1, 1);
        order(x, 2, false, 1, 3, 0, 2);
        int[] points = {0, 1, 0, 1};
        int[] reasons = {0, CANCELLED, 0, CANCELLED};
        for (int i = 0; i < points.length; i++) {
            int booking = i;
            Check.due(points[booking], () -> x.bookingOf(booking, 3));
            Check.due(reasons[booking], () -> x.bookingOf(booking, 2));
        }
    }

    private static void onlyWhoWaits() {
        IsleBoats x = line(5, 10000, 10000);
        x.sailing(0, 0, 1, 5, 10, true);
        x.sailing(0, 0, 1, 10, 10, true);
        x.sailing(1, 0, 1, 12, 10, true);
        plain(x, 0, 5, 1);
        plain(x, 0, 6, 1);
        x.pass(10);
        // Who is aboard the first sailing has nothing to do with the second one, which is CANCELLED.
        aboard(x, 0, 0);
        Check.due(0, () -> x.bookingOf(0, 3));
        Check.due(2, () -> x.bookingOf(1, 3));
        x.pass(2);
        order(x, 0, false, 0);
        order(x, 1, false);
        order(x, 2, false, 1);
        Check.due(CANCELLED, () -> x.bookingOf(1, 2));
        Check.due(0, () -> x.sailingOf(1, 6));
        x.pass(3);
        Check.due(IsleBoats.LANDED, () -> x.bookingOf(0, 0));
        Check.due(IsleBoats.ABOARD, () -> x.bookingOf(1, 0));
    }

    private static void nextIsTheEarliest() {
        IsleBoats x = sailingAt5(5, 10000, 10000);
        x.sailing(1, 0, 1, 40, 10, true);
        x.sailing(1, 0, 1, 30, 10, true);
        x.sailing(1, 0, 2, 10, 10, true);
        x.sailing(1, 2, 1, 10, 10, true);
        x.sailing(1, 1, 0, 10, 10, true);
        x.sailing(1, 0, 1, 31, 10, false);
        plain(x, 0, 6, 1);
        x.pass(5);
        Check.due(2, () -> x.bookingOf(0, 1));
        Check.due(IsleBoats.WAITS, () -> x.bookingOf(0, 0));
        Check.due(LENGTH, () -> x.bookingOf(0, 2));
        Check.due(1, () -> x.bookingOf(0, 3));
    }

    private static void nextIsTheLowestOfLikeOnes() {
        IsleBoats x = sailingAt5(5, 10000, 10000);
        x.sailing(1, 0, 1, 40, 10, true);
        x.sailing(1, 0, 1, 30, 10, true);
        x.sailing(0, 0, 1, 30, 10, true);
        plain(x, 0, 6, 1);
        x.pass(5);
        Check.due(2, () -> x.bookingOf(0, 1));
        x.pass(25);
        aboardAfter(x, 0, 2);
    }

    private static void aboardAfter(IsleBoats x, int booking, int sailing) {
        Check.due(IsleBoats.ABOARD, () -> x.bookingOf(booking, 0));
        Check.due(sailing, () -> x.bookingOf(booking, 1));
    }

    private static void nextOfThisMinute() {
        // Of this minute is the higher sailing, PLANNED yet; the lower one SAILS already.
        IsleBoats x = sailingAt5(5, 10000, 10000);
        x.sailing(1, 0, 1, 5, 10, true);
        x.sailing(1, 0, 1, 6, 10, true);
        plain(x, 0, 6, 1);
        x.pass(5);
        aboardAfter(x, 0, 1);
        IsleBoats y = line(5, 10000, 10000);
        y.sailing(1, 0, 1, 5, 10, true);
        y.sailing(0, 0, 1, 5, 10, true);
        y.sailing(0, 0, 1, 6, 10, true);
        plain(y, 1, 6, 1);
        y.pass(5);
        Check.due(2, () -> y.bookingOf(0, 1));
        Check.due(IsleBoats.WAITS, () -> y.bookingOf(0, 0));
    }

    private static void nextAtFiveMayBeLower() {
        IsleBoats x = line(200, 10000, 10000);
        x.sailing(1, 0, 1, 600, 10, true);
        x.sailing(0, 0, 1, 400, 10, true);
        x.sailing(1, 0, 1, 900, 10, true);
        plain(x, 1, 1, 1);
        x.swell(0, 5);
        x.pass(300);
        // The lower sailing was looked at before, and stays PLANNED.
        Check.due(0, () -> x.bookingOf(0, 1));
        Check.due(1, () -> x.bookingOf(0, 3));
        x.pass(300);
        aboardAfter(x, 0, 0);
        Check.due(CANCELLED, () -> x.bookingOf(0, 2));
    }

    private static void nextMustBePlanned() {
        IsleBoats x = sailingAt5(5, 10000, 10000);
        x.sailing(0, 0, 1, 4, 10, true);
        x.sailing(1, 0, 1, 4, 10, true);
        plain(x, 0, 1, 1);
        x.pass(5);
        // Sailing 1 took boat 0 away, so that sailing 0 is CANCELLED; 1 and 2 SAIL already.
        left(x, 0, CANCELLED);
        Check.due(0, () -> x.bookingOf(0, 1));
        Check.due(1, () -> x.bookingOf(0, 3));
    }

    private static void leftWithoutNext() {
        IsleBoats x = sailingAt5(5, 10000, 10000);
        plain(x, 0, 6, 1);
        x.pass(5);
        left(x, 0, LENGTH);
        x.sailing(1, 0, 1, 5, 10, true);
        x.pass(5);
        Check.due(0, () -> x.sailingOf(1, 3));
        Check.due(0, () -> x.bookingOf(0, 1));
        Check.due(1, () -> x.bookingOf(0, 3));
    }

    private static void lorriesFirstOff() {
        IsleBoats x = sailingAt5(200, 10000, 10000);
        plain(x, 0, 1, 1);
        plain(x, 0, 1, 1);
        x.pass(5);
        order(x, 0, true, 1, 0);
        IsleBoats y = sailingAt5(200, 10000, 10000);
        y.book(0, 1, 1, 1, 0, false, true);
        y.book(0, 1, 1, 1, 0, false, true);
        y.book(0, 2, 1, 1, 0, false, false);
        y.book(0, 0, 1, 1, 0, false, false);
        y.pass(5);
        order(y, 0, false, 3, 0, 1, 2);
        order(y, 0, true, 1, 0, 2, 3);
        y.pass(10);
        order(y, 0, false, 3, 0, 1, 2);
        order(y, 0, true, 1, 0, 2, 3);
    }

    private static double fare(int kind, int length, int cents) {
        IsleBoats x = sailingAt5(200, 10000, 10000);
        x.book(0, kind, length, 1, 0, false, false);
        x.pass(5);
        x.rate(kind, cents);
        double aboard = x.bookingOf(0, 5);
        x.pass(10);
        return aboard == x.bookingOf(0, 5) ? aboard : -1;
    }

    private static void faresToTheLast() {
        int[][] asked = {{0, 1, 0, 0}, {0, 1, 1, 0}, {0, 1, 3, 1}, {0, 3, 3, 4}, {0, 1, 9999, 4999}, {0, 1, 10000, 5000},
            {0, 3, 3333, 4999}, {0, 3, 3334, 5000}, {0, 30, 10000, 5000}, {1, 1, 4999, 4999}, {1, 1, 5000, 5000},
            {1, 1, 5001, 5000}, {1, 30, 166, 4980}, {1, 30, 167, 5000}, {2, 1, 5001, 5000}, {2, 7, 714, 4998},
            {2, 7, 715, 5000}, {2, 30, 10000, 5000}, {2, 30, 0, 0}};
        for (int[] one : asked) {
            Check.due(one[3], () -> fare(one[0], one[1], one[2]));
        }
    }
}
