/** Promise 10 (pass): the order within a minute, and the decision at five. */
public final class TimeTest {
    private static final Class<IllegalArgumentException> ARGUMENT = IllegalArgumentException.class;

    public static void main(String[] args) {
        minutes();
        departsAtItsMinute();
        decisionOfTheDayAlone();
        decisionLooksAtThreeReasons();
        decisionByTheArrival();
        decisionAheadOfDepartures();
        arrivalsAheadOfDecision();
        departuresByRisingSailings();
        manyDecisionsInOneCall();
        Check.end();
    }

    private static IsleBoats line(boolean isSecondLit) {
        IsleBoats x = new IsleBoats();
        x.pier(100, 0, 0, true);
        x.pier(100, 0, 0, isSecondLit);
        x.boat(10, 20, 1000, 1000, 4, 3, 0);
        return x;
    }

    private static void minutes() {
        IsleBoats x = new IsleBoats();
        Check.fails(ARGUMENT, () -> x.pass(0));
        Check.fails(ARGUMENT, () -> x.pass(-1));
        Check.fails(ARGUMENT, () -> x.pass(1501));
        Check.fails(ARGUMENT, () -> x.pass(Integer.MIN_VALUE));
        Check.due(1, () -> x.pass(1));
        Check.due(1501, () -> x.pass(1500));
        Check.due(1801, () -> x.pass(300));
        Check.due(1802, () -> x.pass(1));
    }

    private static void departsAtItsMinute() {
        IsleBoats x = line(true);
        x.pass(7);
        x.sailing(0, 0, 1, 1, 1, true);
        x.sailing(0, 1, 0, 1500, 700, true);
        x.pass(1);
        Check.due(IsleBoats.SAILS, () -> x.sailingOf(0, 0));
        x.pass(1);
        Check.due(IsleBoats.ARRIVED, () -> x.sailingOf(0, 0));
        x.pass(1497);
        Check.due(IsleBoats.PLANNED, () -> x.sailingOf(1, 0));
        x.pass(1);
        Check.due(IsleBoats.SAILS, () -> x.sailingOf(1, 0));
        x.pass(699);
        Check.due(IsleBoats.SAILS, () -> x.sailingOf(1, 0));
        x.pass(1);
        Check.due(IsleBoats.ARRIVED, () -> x.sailingOf(1, 0));
    }

    private static void decisionOfTheDayAlone() {
        IsleBoats x = line(true);
        x.sailing(0, 0, 1, 1439, 10, true);
        x.sailing(0, 0, 1, 1440, 10, true);
        x.sailing(0, 0, 1, 1741, 10, true);
        x.breakDown(0);
        x.pass(299);
        Check.due(IsleBoats.PLANNED, () -> x.sailingOf(0, 0));
        x.pass(1);
        Check.due(IsleBoats.CANCELLED, () -> x.sailingOf(0, 0));
        Check.due(1, () -> x.sailingOf(0, 1));
        Check.due(IsleBoats.PLANNED, () -> x.sailingOf(1, 0));
        x.sailing(0, 0, 1, 100, 10, true);
        x.pass(99);
        // Planned after five of its day: it is looked at as it departs.
        Check.due(IsleBoats.PLANNED, () -> x.sailingOf(3, 0));
        x.breakDown(0);
        x.pass(1);
        Check.due(IsleBoats.SAILS, () -> x.sailingOf(3, 0));
        x.breakDown(0);
        x.pass(1340);
        Check.due(IsleBoats.CANCELLED, () -> x.sailingOf(1, 0));
        Check.due(IsleBoats.CANCELLED, () -> x.sailingOf(2, 0));
    }

    private static void decisionLooksAtThreeReasons() {
        IsleBoats x = new IsleBoats();
        x.pier(5, 0, 0, true);
        x.pier(5, 0, 0, true);
        x.boat(10, 20, 1000, 1000, 4, 1, 0);
        x.boat(10, 20, 1000, 1000, 4, 3, 0);
        x.sailing(0, 1, 0, 400, 10, true);
        x.sailing(1, 0, 1, 500, 10, true);
        x.sailing(1, 0, 1, 600, 10, true);
        x.pass(300);
        Check.due(IsleBoats.PLANNED, () -> x.sailingOf(0, 0));
        Check.due(IsleBoats.PLANNED, () -> x.sailingOf(1, 0));
        x.pass(200);
        Check.due(1, () -> x.sailingOf(0, 1));
        Check.due(3, () -> x.sailingOf(1, 1));
        IsleBoats y = line(false);
        y.sailing(0, 0, 1, 1320, 10, true);
        y.swell(0, 9);
        y.pass(299);
        y.sailing(0, 0, 1, 900, 10, true);
        y.pass(1);
        Check.due(4, () -> y.sailingOf(0, 1));
        Check.due(5, () -> y.sailingOf(1, 1));
    }

    private static void decisionByTheArrival() {
        IsleBoats x = line(false);
        x.sailing(0, 0, 1, 1300, 19, true);
        x.sailing(0, 0, 1, 1300, 20, true);
        x.sailing(0, 0, 1, 1300, 499, true);
        x.sailing(0, 0, 1, 1300, 500, true);
        x.sailing(0, 0, 1, 310, 49, true);
        x.sailing(0, 1, 0, 1300, 50, true);
        x.pass(300);
        Check.due(IsleBoats.PLANNED, () -> x.sailingOf(0, 0));
        Check.due(4, () -> x.sailingOf(1, 1));
        Check.due(4, () -> x.sailingOf(2, 1));
        Check.due(IsleBoats.PLANNED, () -> x.sailingOf(3, 0));
        Check.due(4, () -> x.sailingOf(4, 1));
        Check.due(IsleBoats.PLANNED, () -> x.sailingOf(5, 0));
    }

    private static void decisionAheadOfDepartures() {
        IsleBoats x = line(false);
        x.sailing(0, 1, 0, 300, 10, true);
        x.sailing(0, 0, 1, 300, 10, true);
        x.pass(300);
        Check.due(1, () -> x.sailingOf(0, 1));
        Check.due(4, () -> x.sailingOf(1, 1));
        IsleBoats y = line(true);
        y.swell(1, 9);
        // Both go at five: the boat lies elsewhere, but the decision is first, and tells the swell.
        y.sailing(0, 1, 0, 300, 10, true);
        y.pass(300);
        Check.due(5, () -> y.sailingOf(0, 1));
    }

    private static void arrivalsAheadOfDecision() {
        IsleBoats x = line(true);
        x.sailing(0, 0, 1, 290, 10, true);
        x.boat(10, 20, 1000, 1000, 4, 3, 0);
        x.sailing(1, 0, 1, 600, 10, true);
        x.breakDown(1);
        x.pass(300);
        // The cancelling falls into the gap that begins with the arrival of this minute.
        Check.due(0, () -> x.gap(1, 2));
        x.pass(301);
        Check.due(1, () -> x.gap(1, 2));
    }

    private static void departuresByRisingSailings() {
        IsleBoats x = line(true);
        x.pier(100, 0, 0, true);
        x.boat(10, 20, 1000, 1000, 4, 7, 0);
        x.sailing(1, 0, 2, 50, 10, true);
        x.sailing(1, 0, 1, 50, 10, true);
        x.sailing(0, 0, 1, 50, 10, true);
        x.pass(50);
        Check.due(IsleBoats.SAILS, () -> x.sailingOf(0, 0));
        Check.due(1, () -> x.sailingOf(1, 1));
        Check.due(IsleBoats.SAILS, () -> x.sailingOf(2, 0));
        x.pass(10);
        Check.due(IsleBoats.ARRIVED, () -> x.sailingOf(0, 0));
        Check.due(IsleBoats.ARRIVED, () -> x.sailingOf(2, 0));
        Check.due(2, () -> x.boatOf(1, 0));
        Check.due(1, () -> x.boatOf(0, 0));
    }

    private static void manyDecisionsInOneCall() {
        IsleBoats x = line(true);
        x.sailing(0, 0, 1, 400, 10, true);
        x.sailing(0, 0, 1, 2000, 10, true);
        x.swell(1, 9);
        x.pass(299);
        x.pass(1442);
        Check.due(IsleBoats.CANCELLED, () -> x.sailingOf(0, 0));
        Check.due(IsleBoats.CANCELLED, () -> x.sailingOf(1, 0));
    }
}
