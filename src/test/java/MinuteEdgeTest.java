/** The order within a minute, the decision at the minute 300 of a day, and gaps to the minute (promises 10 and 17). */
public final class MinuteEdgeTest {
    private static final int BOAT = 1, TIDE = 3, NIGHT = 4, SWELL = 5;

    public static void main(String[] args) {
        firstMinute();
        oneByOneOrAtOnce();
        arrivalAheadOfDeparture();
        arrivalAheadOfDecision();
        decisionAheadOfDeparture();
        decisionIsOfItsDay();
        decisionOfEachDay();
        decisionOfWhatIsPlannedThen();
        decisionOfThreeReasons();
        decisionByTheFirstReason();
        decisionIsKept();
        lowestFirstAtFive();
        lowestFirstAtDeparture();
        gapOfAPierWithoutArrivals();
        gapEndsAtTheArrival();
        likeGapsTellTheFirst();
        gapOfNowAndLongest();
        causeOfTheFirstCancelled();
        causeToTheMinute();
        causeOfGapsApart();
        Check.end();
    }

    private static IsleBoats line() {
        return line(true);
    }

    /** Three piers, the last of them lit or not, and three boats at pier 0. */
    private static IsleBoats line(boolean isLastLit) {
        IsleBoats x = new IsleBoats();
        x.pier(500, 0, 0, true);
        x.pier(500, 0, 0, true);
        x.pier(500, 0, 0, isLastLit);
        for (int i = 0; i < 3; i++) {
            x.boat(1, 200, 10000, 10000, 4, 7, 0);
        }
        return x;
    }

    private static void state(IsleBoats x, int sailing, int due) {
        Check.due(due, () -> x.sailingOf(sailing, 0));
    }

    private static void cancelled(IsleBoats x, int sailing, int reason) {
        state(x, sailing, IsleBoats.CANCELLED);
        Check.due(reason, () -> x.sailingOf(sailing, 1));
    }

    private static void gaps(IsleBoats x, int pier, int now, int longest, int cause) {
        Check.due(now, () -> x.gap(pier, 0));
        Check.due(longest, () -> x.gap(pier, 1));
        Check.due(cause, () -> x.gap(pier, 2));
    }

    private static void firstMinute() {
        IsleBoats x = line();
        x.sailing(0, 0, 1, 1, 1, true);
        state(x, 0, IsleBoats.PLANNED);
        Check.due(1, () -> x.pass(1));
        state(x, 0, IsleBoats.SAILS);
        Check.due(2, () -> x.pass(1));
        state(x, 0, IsleBoats.ARRIVED);
    }

    private static IsleBoats busyLine() {
        IsleBoats x = line(false);
        for (int i = 0; i < 40; i++) {
            x.sailing(i % 3, i % 3 == 0 ? i / 3 % 2 : 0, i % 3 == 0 ? 1 - i / 3 % 2 : 1 + i % 2, 40 * i + 7, 30 + i, true);
            x.book(i, i % 3, 10 + i % 20, 100 + i, i % 4, i % 5 == 0, i % 2 == 0);
        }
        return x;
    }

    private static void oneByOneOrAtOnce() {
        IsleBoats slow = busyLine();
        IsleBoats fast = busyLine();
        for (int i = 0; i < 1500; i++) {
            slow.pass(1);
        }
        fast.pass(1500);
        Check.yes(true, () -> Answers.of(slow).equals(Answers.of(fast)));
        slow.pass(300);
        slow.pass(1200);
        fast.pass(1200);
        fast.pass(300);
        Check.yes(true, () -> Answers.of(slow).equals(Answers.of(fast)));
    }

    private static void arrivalAheadOfDeparture() {
        IsleBoats x = line();
        // The lower sailing departs in the minute in which the higher one arrives.
        x.sailing(0, 1, 0, 20, 5, true);
        x.sailing(0, 0, 1, 10, 10, true);
        x.sailing(1, 1, 0, 19, 5, true);
        x.sailing(1, 0, 1, 10, 10, true);
        x.pass(20);
        state(x, 0, IsleBoats.SAILS);
        state(x, 1, IsleBoats.ARRIVED);
        cancelled(x, 2, BOAT);
        Check.due(-1, () -> x.boatOf(0, 0));
        Check.due(1, () -> x.boatOf(1, 0));
    }

    private static void arrivalAheadOfDecision() {
        IsleBoats x = line();
        x.sailing(1, 0, 1, 500, 10, true);
        x.sailing(0, 0, 1, 200, 100, true);
        x.breakDown(1);
        x.pass(300);
        cancelled(x, 0, BOAT);
        // It was CANCELLED after the arrival, within the gap of now.
        gaps(x, 1, 0, 300, 0);
        x.pass(300);
        gaps(x, 1, 300, 300, 0);
        x.pass(1);
        gaps(x, 1, 301, 301, BOAT);
    }

    private static void decisionAheadOfDeparture() {
        IsleBoats x = line();
        // Boat 1 does not lie at pier 1; but the swell is looked at first, by the decision.
        x.sailing(1, 1, 0, 300, 10, true);
        x.sailing(1, 1, 0, 301, 10, true);
        x.sailing(1, 1, 0, 299, 10, true);
        x.swell(0, 5);
        x.pass(299);
        cancelled(x, 2, BOAT);
        x.pass(1);
        cancelled(x, 0, SWELL);
        cancelled(x, 1, SWELL);
        IsleBoats y = line();
        y.sailing(1, 1, 0, 300, 10, true);
        y.sailing(0, 0, 1, 300, 10, true);
        y.pass(300);
        cancelled(y, 0, BOAT);
        state(y, 1, IsleBoats.SAILS);
    }

    private static void decisionIsOfItsDay() {
        IsleBoats x = line();
        x.sailing(0, 0, 1, 299, 10, true);
        x.sailing(1, 0, 1, 1439, 10, true);
        x.sailing(1, 0, 1, 1440, 10, true);
        x.sailing(1, 0, 1, 1741, 10, true);
        x.pass(299);
        x.swell(1, 9);
        state(x, 0, IsleBoats.SAILS);
        state(x, 1, IsleBoats.PLANNED);
        x.pass(1);
        state(x, 0, IsleBoats.SAILS);
        cancelled(x, 1, SWELL);
        state(x, 2, IsleBoats.PLANNED);
        state(x, 3, IsleBoats.PLANNED);
        x.swell(1, 4);
        x.pass(1140);
        state(x, 2, IsleBoats.SAILS);
    }

    private static void decisionOfEachDay() {
        IsleBoats x = line();
        for (int day = 0; day < 4; day++) {
            x.sailing(0, 0, 1, 1440 * day + 1439, 10, true);
        }
        x.breakDown(0);
        for (int day = 0; day < 4; day++) {
            x.pass(day == 0 ? 299 : 1439);
            state(x, day, IsleBoats.PLANNED);
            x.pass(1);
            cancelled(x, day, BOAT);
        }
    }

    private static void decisionOfWhatIsPlannedThen() {
        IsleBoats x = line();
        x.swell(1, 9);
        x.pass(299);
        x.sailing(0, 0, 1, 10, 10, true);
        x.pass(1);
        x.sailing(0, 0, 1, 10, 10, true);
        cancelled(x, 0, SWELL);
        state(x, 1, IsleBoats.PLANNED);
        x.swell(1, 0);
        x.pass(10);
        cancelled(x, 0, SWELL);
        state(x, 1, IsleBoats.SAILS);
    }

    private static void decisionOfThreeReasons() {
        IsleBoats x = new IsleBoats();
        x.pier(5, 0, 0, true);
        x.pier(500, 0, 0, true);
        x.pier(500, 0, 0, true);
        x.boat(6, 1, 1, 1, 9, 7, 0);
        x.boat(1, 1, 1, 1, 9, 7, 1);
        x.boat(1, 1, 1, 1, 9, 2, 1);
        x.sailing(0, 0, 1, 310, 10, true);
        x.sailing(1, 2, 1, 310, 10, true);
        x.sailing(2, 1, 2, 310, 10, true);
        x.sailing(1, 1, 2, 10, 700, true);
        x.sailing(1, 2, 1, 711, 21, true);
        x.pass(300);
        // Against them are the tide, the pier, the ramp and the crew, but none of that is looked at by now.
        for (int i : new int[] {0, 1, 2, 4}) {
            state(x, i, IsleBoats.PLANNED);
        }
        x.pass(10);
        cancelled(x, 0, TIDE);
        cancelled(x, 1, BOAT);
        cancelled(x, 2, BOAT);
        x.pass(401);
        cancelled(x, 4, 2);
    }

    private static void decisionByTheFirstReason() {
        IsleBoats x = line(false);
        x.sailing(0, 0, 2, 1300, 20, true);
        x.sailing(1, 0, 2, 1300, 20, true);
        x.sailing(1, 0, 2, 1300, 19, true);
        x.sailing(2, 0, 1, 1300, 20, true);
        x.breakDown(0);
        x.swell(2, 5);
        x.pass(300);
        cancelled(x, 0, BOAT);
        cancelled(x, 1, NIGHT);
        cancelled(x, 2, SWELL);
        state(x, 3, IsleBoats.PLANNED);
    }

    private static void decisionIsKept() {
        IsleBoats x = line();
        x.sailing(0, 0, 1, 400, 10, true);
        x.book(0, 1, 1, 1, 0, false, false);
        x.breakDown(0);
        x.pass(300);
        x.breakDown(0);
        x.pass(100);
        // It is mended, but its sailing stays CANCELLED, and is not looked at once more.
        cancelled(x, 0, BOAT);
        Check.due(1, () -> x.bookingOf(0, 3));
        Check.due(0, () -> x.boatOf(0, 0));
        Check.due(0, () -> x.relieve(0, 1));
    }

    private static void lowestFirstAtFive() {
        IsleBoats x = line();
        x.sailing(0, 0, 1, 700, 10, true);
        x.sailing(1, 0, 1, 600, 10, true);
        x.sailing(1, 0, 1, 500, 10, true);
        x.book(0, 1, 1, 1, 0, false, false);
        x.book(2, 1, 1, 1, 0, false, false);
        x.breakDown(0);
        x.swell(1, 5);
        x.pass(300);
        // 0 goes to 2, as the earliest, and is left with it; 2 is the last one that is CANCELLED.
        Check.due(2, () -> x.bookingOf(0, 3));
        Check.due(2, () -> x.bookingOf(0, 1));
        Check.due(1, () -> x.bookingOf(1, 3));
        Check.due(2, () -> x.bookingOf(1, 1));
        // The first of them is that of the boat.
        gaps(x, 1, 300, 300, BOAT);
        IsleBoats y = line();
        y.sailing(0, 0, 1, 500, 10, true);
        y.sailing(1, 0, 1, 400, 10, true);
        y.breakDown(1);
        y.swell(1, 5);
        y.pass(300);
        cancelled(y, 1, BOAT);
        gaps(y, 1, 300, 300, SWELL);
    }

    private static void lowestFirstAtDeparture() {
        IsleBoats x = line();
        x.sailing(0, 0, 2, 10, 10, true);
        x.sailing(0, 0, 1, 10, 10, true);
        x.sailing(1, 0, 1, 10, 10, true);
        x.book(1, 1, 1, 1, 0, false, false);
        x.swell(1, 5);
        x.pass(10);
        state(x, 0, IsleBoats.SAILS);
        cancelled(x, 1, BOAT);
        cancelled(x, 2, SWELL);
        gaps(x, 1, 10, 10, BOAT);
        Check.due(2, () -> x.bookingOf(0, 3));
        Check.due(2, () -> x.bookingOf(0, 1));
        Check.due(IsleBoats.LEFT, () -> x.bookingOf(0, 0));
    }

    private static void gapOfAPierWithoutArrivals() {
        IsleBoats x = line();
        gaps(x, 0, 0, 0, 0);
        x.sailing(0, 0, 1, 5, 10, true);
        x.pass(5);
        // Neither a boat that lies there nor one that departs is one that arrived.
        gaps(x, 0, 5, 5, 0);
        gaps(x, 2, 5, 5, 0);
        x.pass(1000);
        gaps(x, 0, 1005, 1005, 0);
        Check.due(3, () -> x.pier(500, 0, 0, true));
        gaps(x, 3, 1005, 1005, 0);
    }

    private static void gapEndsAtTheArrival() {
        IsleBoats x = line();
        x.sailing(0, 0, 1, 5, 10, true);
        x.pass(14);
        gaps(x, 1, 14, 14, 0);
        x.pass(1);
        gaps(x, 1, 0, 15, 0);
        x.pass(1);
        gaps(x, 1, 1, 15, 0);
    }

    private static void likeGapsTellTheFirst() {
        IsleBoats x = line();
        x.sailing(0, 0, 1, 10, 10, true);
        x.sailing(0, 0, 1, 25, 10, true);
        x.sailing(1, 0, 1, 30, 10, true);
        x.sailing(2, 0, 1, 31, 30, true);
        x.pass(39);
        cancelled(x, 1, BOAT);
        gaps(x, 1, 19, 20, 0);
        x.pass(1);
        // Both gaps are of 20 minutes; the second one has a cause.
        gaps(x, 1, 0, 20, 0);
        x.pass(20);
        gaps(x, 1, 20, 20, 0);
        x.pass(1);
        gaps(x, 1, 0, 21, 0);
    }

    private static void gapOfNowAndLongest() {
        IsleBoats x = line();
        x.sailing(0, 0, 1, 10, 10, true);
        x.sailing(0, 0, 1, 25, 10, true);
        x.sailing(1, 0, 1, 31, 10, true);
        x.pass(40);
        // Like the ended one the gap of now is not the longest, but longer it is, with its cause.
        gaps(x, 1, 20, 20, 0);
        x.pass(1);
        gaps(x, 1, 0, 21, BOAT);
        x.pass(21);
        gaps(x, 1, 21, 21, BOAT);
        x.pass(1);
        gaps(x, 1, 22, 22, 0);
    }

    private static void causeOfTheFirstCancelled() {
        IsleBoats x = line();
        x.sailing(1, 0, 1, 20, 10, true);
        x.sailing(0, 1, 0, 10, 10, true);
        x.sailing(1, 0, 2, 15, 10, true);
        x.swell(1, 5);
        x.pass(19);
        gaps(x, 1, 19, 19, 0);
        gaps(x, 0, 19, 19, BOAT);
        x.swell(1, 9);
        x.breakDown(2);
        x.sailing(0, 0, 1, 2, 10, true);
        x.sailing(2, 0, 1, 3, 10, true);
        x.pass(3);
        // Against the lower sailing was the boat, later ones met the swell and a broken boat.
        cancelled(x, 0, BOAT);
        cancelled(x, 3, SWELL);
        cancelled(x, 4, BOAT);
        gaps(x, 1, 22, 22, BOAT);
        Check.due(0, () -> x.gap(2, 2));
    }

    private static void causeToTheMinute() {
        for (int cancelledAt = 19; cancelledAt <= 21; cancelledAt++) {
            IsleBoats x = line();
            x.sailing(0, 0, 1, 10, 10, true);
            x.sailing(0, 0, 1, cancelledAt, 10, true);
            x.pass(21);
            cancelled(x, 1, BOAT);
            int ended = cancelledAt < 20 ? BOAT : 0;
            gaps(x, 1, 1, 20, ended);
            x.pass(20);
            gaps(x, 1, 21, 21, BOAT - ended);
        }
    }

    private static void causeOfGapsApart() {
        IsleBoats x = line();
        x.sailing(0, 2, 1, 5, 10, true);
        x.sailing(0, 0, 1, 10, 10, true);
        x.sailing(1, 0, 1, 20, 30, true);
        x.sailing(2, 0, 1, 60, 100, true);
        x.pass(50);
        // The gap of 20 had a cause, that of 30, which is the longest then, has none.
        gaps(x, 1, 0, 30, 0);
        gaps(x, 0, 50, 50, 0);
        gaps(x, 2, 50, 50, 0);
        x.pass(110);
        gaps(x, 1, 0, 110, 0);
    }
}
