/** Promise 17 (gap). */
public final class GapTest {
    private static final Class<IndexOutOfBoundsException> INDEX = IndexOutOfBoundsException.class;
    private static final Class<IllegalArgumentException> ARGUMENT = IllegalArgumentException.class;

    public static void main(String[] args) {
        argumentsOfGap();
        sinceTheBeginning();
        sinceAnArrival();
        firstOfLikeOnes();
        firstCauseWithin();
        causeOfTheLongestAlone();
        causeToThisPierAlone();
        cancelledInTheMinuteOfAnArrival();
        twoArrivalsInAMinute();
        Check.end();
    }

    private static IsleBoats line() {
        IsleBoats x = new IsleBoats();
        x.pier(100, 0, 0, true);
        x.pier(100, 0, 0, true);
        x.boat(10, 200, 10000, 10000, 4, 3, 0);
        return x;
    }

    private static void gapIs(IsleBoats x, int pier, int now, int longest, int cause) {
        Check.due(now, () -> x.gap(pier, 0));
        Check.due(longest, () -> x.gap(pier, 1));
        Check.due(cause, () -> x.gap(pier, 2));
    }

    private static void argumentsOfGap() {
        IsleBoats x = new IsleBoats();
        Check.fails(INDEX, () -> x.gap(0, 3));
        x.pier(1, 1, 1, true);
        Check.fails(INDEX, () -> x.gap(1, 3));
        Check.fails(INDEX, () -> x.gap(-1, 0));
        Check.fails(ARGUMENT, () -> x.gap(0, 3));
        Check.fails(ARGUMENT, () -> x.gap(0, -1));
        gapIs(x, 0, 0, 0, 0);
    }

    private static void sinceTheBeginning() {
        IsleBoats x = new IsleBoats();
        x.pass(77);
        x.pier(1, 1, 1, true);
        gapIs(x, 0, 77, 77, 0);
        x.pass(1000);
        gapIs(x, 0, 1077, 1077, 0);
    }

    private static void sinceAnArrival() {
        IsleBoats x = line();
        x.sailing(0, 0, 1, 10, 20, false);
        x.sailing(0, 1, 0, 50, 100, false);
        x.pass(29);
        gapIs(x, 1, 29, 29, 0);
        x.pass(1);
        gapIs(x, 1, 0, 30, 0);
        gapIs(x, 0, 30, 30, 0);
        x.pass(25);
        gapIs(x, 1, 25, 30, 0);
        x.pass(6);
        gapIs(x, 1, 31, 31, 0);
        x.pass(88);
        gapIs(x, 0, 149, 149, 0);
        x.pass(2);
        gapIs(x, 0, 1, 150, 0);
    }

    private static void firstOfLikeOnes() {
        IsleBoats x = line();
        x.sailing(0, 0, 1, 40, 10, false);
        x.sailing(0, 0, 1, 60, 10, false);
        x.sailing(0, 1, 0, 70, 10, false);
        x.sailing(0, 0, 1, 80, 20, false);
        x.pass(99);
        Check.due(1, () -> x.sailingOf(1, 1));
        gapIs(x, 1, 49, 50, 0);
        x.pass(1);
        // The second gap of 50, with a cause, is not longer than the first one, without.
        gapIs(x, 1, 0, 50, 0);
        x.pass(50);
        gapIs(x, 1, 50, 50, 0);
    }

    private static void firstCauseWithin() {
        IsleBoats x = line();
        x.sailing(0, 0, 1, 400, 10, false);
        x.sailing(0, 1, 0, 20, 10, false);
        x.sailing(0, 0, 1, 1200, 10, false);
        x.swell(1, 9);
        x.pass(299);
        gapIs(x, 1, 299, 299, 0);
        x.pass(1);
        gapIs(x, 1, 300, 300, 5);
        gapIs(x, 0, 300, 300, 1);
        x.swell(1, 0);
        x.sailing(0, 0, 1, 10, 10, false);
        x.pass(20);
        Check.due(IsleBoats.ARRIVED, () -> x.sailingOf(3, 0));
        gapIs(x, 1, 0, 320, 5);
        x.breakDown(0);
        x.sailing(0, 0, 1, 10, 10, false);
        x.pass(320);
        gapIs(x, 1, 320, 320, 5);
        x.pass(1);
        gapIs(x, 1, 321, 321, 1);
    }

    private static void causeOfTheLongestAlone() {
        IsleBoats x = line();
        x.sailing(0, 0, 1, 10, 10, false);
        x.sailing(0, 0, 1, 25, 1, false);
        x.sailing(0, 1, 0, 30, 5, false);
        x.sailing(0, 0, 1, 35, 15, false);
        x.pass(41);
        gapIs(x, 1, 21, 21, 1);
        x.pass(9);
        gapIs(x, 1, 0, 30, 1);
        // The gap that begins now has no cause of its own.
        x.pass(31);
        gapIs(x, 1, 31, 31, 0);
    }

    private static void causeToThisPierAlone() {
        IsleBoats x = line();
        x.pier(100, 0, 0, true);
        x.sailing(0, 1, 2, 5, 10, false);
        x.pass(5);
        gapIs(x, 0, 5, 5, 0);
        gapIs(x, 1, 5, 5, 0);
        gapIs(x, 2, 5, 5, 1);
    }

    private static void cancelledInTheMinuteOfAnArrival() {
        IsleBoats x = line();
        x.boat(10, 200, 10000, 10000, 4, 3, 1);
        x.sailing(1, 0, 1, 20, 1, false);
        x.sailing(0, 0, 1, 10, 10, false);
        x.pass(20);
        gapIs(x, 1, 0, 20, 0);
        x.pass(20);
        gapIs(x, 1, 20, 20, 0);
        x.pass(1);
        gapIs(x, 1, 21, 21, 1);
    }

    private static void twoArrivalsInAMinute() {
        IsleBoats x = line();
        x.boat(10, 200, 10000, 10000, 4, 3, 0);
        x.sailing(0, 0, 1, 10, 10, false);
        x.sailing(1, 0, 1, 12, 8, false);
        x.pass(25);
        gapIs(x, 1, 5, 20, 0);
    }
}
