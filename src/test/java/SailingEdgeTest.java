/** The boundaries of what is against a sailing (promises 3, 4, 6, 7, 13, 14), most of them as it departs. */
public final class SailingEdgeTest {
    private static final int BOAT = 1, CREW = 2, TIDE = 3, NIGHT = 4, SWELL = 5;
    private static final int BROKEN = 0, ELSEWHERE = 1, RAMP = 2;

    public static void main(String[] args) {
        rampOfEachPair();
        rampOfNoPier();
        rampForPiersToldLater();
        draughtAgainstDepth();
        draughtAgainstTide();
        tideOfBothAtTheirMinutes();
        nightOfTheArrival();
        nightBeyondMidnight();
        nightOfTheLastPierAlone();
        swellLimits();
        swellOfNow();
        crewOf720();
        crewOfWhatSailedAlone();
        crewAfterRelief();
        crewOfTheDay();
        farthestDeparture();
        againstInThisMinute();
        mendedInTime();
        relievedInTime();
        firstOfEachSetOfReasons();
        firstOfEachSetAtFive();
        Check.end();
    }

    private static IsleBoats line(int piers) {
        IsleBoats x = new IsleBoats();
        for (int i = 0; i < piers; i++) {
            x.pier(500, 0, 0, true);
        }
        return x;
    }

    private static int boat(IsleBoats x, int home) {
        return x.boat(1, 200, 10000, 10000, 9, 255, home);
    }

    private static void sails(IsleBoats x, int sailing) {
        Check.due(IsleBoats.SAILS, () -> x.sailingOf(sailing, 0));
        Check.due(0, () -> x.sailingOf(sailing, 1));
    }

    private static void cancelled(IsleBoats x, int sailing, int reason) {
        Check.due(IsleBoats.CANCELLED, () -> x.sailingOf(sailing, 0));
        Check.due(reason, () -> x.sailingOf(sailing, 1));
    }

    private static void rampOfEachPair() {
        for (int from = 0; from < 8; from++) {
            for (int to = 0; to < 8; to++) {
                if (from != to) {
                    int first = 1 << from;
                    int last = 1 << to;
                    Check.due(0, rampOf(first + last, from, to));
                    Check.due(1, rampOf(255 - first, from, to));
                    Check.due(1, rampOf(255 - last, from, to));
                }
            }
        }
    }

    private static Check.Call rampOf(int set, int from, int to) {
        IsleBoats x = line(8);
        x.boat(1, 1, 1, 1, 9, set, from);
        x.sailing(0, from, to, 1, 1, true);
        return () -> x.against(0);
    }

    private static void rampOfNoPier() {
        Check.due(1, rampOf(0, 0, 7));
        Check.due(0, rampOf(255, 0, 7));
    }

    private static void rampForPiersToldLater() {
        IsleBoats x = line(1);
        x.boat(1, 1, 1, 1, 9, 1 + 4, 0);
        x.pier(500, 0, 0, true);
        x.pier(500, 0, 0, true);
        x.sailing(0, 0, 1, 5, 1, true);
        x.sailing(0, 0, 2, 5, 1, true);
        x.pass(5);
        cancelled(x, 0, 1);
        sails(x, 1);
    }

    private static void draughtAgainstDepth() {
        Check.due(0, depthAndDraught(500, 500, 500));
        Check.due(3, depthAndDraught(499, 500, 500));
        Check.due(3, depthAndDraught(500, 499, 500));
        Check.due(0, depthAndDraught(1, 1, 1));
        Check.due(3, depthAndDraught(0, 1, 1));
        Check.due(3, depthAndDraught(1, 0, 1));
    }

    private static Check.Call depthAndDraught(int firstDepth, int lastDepth, int draught) {
        IsleBoats x = new IsleBoats();
        x.pier(firstDepth, 0, 0, true);
        x.pier(lastDepth, 0, 0, true);
        x.boat(draught, 1, 1, 1, 9, 3, 0);
        x.sailing(0, 0, 1, 1, 1, true);
        return () -> x.against(0);
    }

    private static void draughtAgainstTide() {
        IsleBoats x = new IsleBoats();
        x.pier(0, 1, 0, true);
        x.pier(500, 0, 0, true);
        x.boat(1, 1, 1, 1, 9, 3, 0);
        x.sailing(0, 0, 1, 5000, 1, true);
        // A tide of 1, cut towards 0, is there in the very minute of high water alone.
        Check.due(0, () -> x.against(0));
        x.pass(1);
        Check.due(3, () -> x.against(0));
        x.pass(718);
        Check.due(3, () -> x.against(0));
        x.pass(1);
        Check.due(0, () -> x.against(0));
        IsleBoats y = new IsleBoats();
        y.pier(200, 200, 360, true);
        y.pier(500, 0, 0, true);
        y.boat(1, 1, 1, 1, 9, 3, 0);
        y.sailing(0, 0, 1, 5000, 1, true);
        // Depth and tide are 0 together at low water, 1 in the minute after it.
        Check.due(3, () -> y.against(0));
        y.pass(1);
        Check.due(0, () -> y.against(0));
        y.pass(718);
        Check.due(0, () -> y.against(0));
        y.pass(1);
        Check.due(3, () -> y.against(0));
    }

    private static void tideOfBothAtTheirMinutes() {
        // Water of 50 is at the first pier at 720 alone, and at the last one at 1080 alone.
        int[][] departures = {{720, 360, IsleBoats.SAILS}, {719, 361, IsleBoats.CANCELLED},
            {721, 359, IsleBoats.CANCELLED}, {720, 359, IsleBoats.CANCELLED}, {720, 361, IsleBoats.CANCELLED}};
        for (int[] asked : departures) {
            IsleBoats x = new IsleBoats();
            x.pier(0, 50, 0, true);
            x.pier(0, 50, 360, true);
            x.boat(50, 1, 1, 1, 9, 3, 0);
            x.sailing(0, 0, 1, asked[0], asked[1], true);
            x.pass(asked[0]);
            Check.due(asked[2], () -> x.sailingOf(0, 0));
            Check.due(asked[2] == IsleBoats.SAILS ? 0 : 3, () -> x.sailingOf(0, 1));
        }
    }

    private static int nightReason(int departure, int duration) {
        IsleBoats x = new IsleBoats();
        x.pier(500, 0, 0, true);
        x.pier(500, 0, 0, false);
        boat(x, 0);
        // Planned after the decision of its day, so that its departure alone looks at it.
        int ahead = departure % 1440 > 300 ? departure % 1440 - 300 : departure % 1440;
        if (departure % 1440 > 300) {
            x.pass(300);
        }
        x.sailing(0, 0, 1, ahead, duration, true);
        x.pass(ahead);
        return x.sailingOf(0, 1);
    }

    private static void nightOfTheArrival() {
        Check.due(4, () -> nightReason(200, 159));
        Check.due(0, () -> nightReason(200, 160));
        Check.due(0, () -> nightReason(800, 519));
        Check.due(4, () -> nightReason(800, 520));
        Check.due(4, () -> nightReason(1300, 139));
        Check.due(4, () -> nightReason(1300, 140));
    }

    private static void nightBeyondMidnight() {
        Check.due(4, () -> nightReason(1200, 240));
        Check.due(4, () -> nightReason(1200, 599));
        Check.due(0, () -> nightReason(1200, 600));
        Check.due(0, () -> nightReason(1439, 700));
    }

    private static void nightOfTheLastPierAlone() {
        IsleBoats x = new IsleBoats();
        x.pier(500, 0, 0, false);
        x.pier(500, 0, 0, true);
        boat(x, 0);
        x.sailing(0, 0, 1, 1, 1, true);
        x.sailing(0, 1, 0, 5, 1, true);
        x.pass(5);
        Check.due(IsleBoats.ARRIVED, () -> x.sailingOf(0, 0));
        cancelled(x, 1, 4);
    }

    private static void swellLimits() {
        for (int limit = 0; limit <= 9; limit++) {
            IsleBoats x = line(2);
            x.boat(1, 1, 1, 1, limit, 3, 0);
            x.sailing(0, 0, 1, 1, 1, true);
            for (int swell = 0; swell <= 9; swell++) {
                int due = swell > limit ? 5 : 0;
                x.swell(0, swell);
                x.swell(1, 0);
                Check.due(due, () -> x.against(0));
                x.swell(0, 0);
                x.swell(1, swell);
                Check.due(due, () -> x.against(0));
                x.swell(0, swell);
                Check.due(due, () -> x.against(0));
            }
        }
    }

    private static void swellOfNow() {
        IsleBoats x = line(2);
        x.boat(1, 1, 1, 1, 4, 3, 0);
        x.sailing(0, 0, 1, 400, 10, true);
        x.sailing(0, 1, 0, 500, 10, true);
        x.swell(0, 9);
        x.pass(299);
        x.swell(0, 4);
        x.pass(100);
        x.swell(0, 5);
        x.swell(0, 4);
        x.pass(1);
        sails(x, 0);
        // What is told while it sails does not call it back.
        x.swell(1, 9);
        x.pass(10);
        Check.due(IsleBoats.ARRIVED, () -> x.sailingOf(0, 0));
        x.pass(90);
        cancelled(x, 1, 5);
        x.swell(1, 0);
        x.pass(1);
        cancelled(x, 1, 5);
    }

    private static void crewOf720() {
        Check.due(0, crewOf(20, 700));
        Check.due(2, crewOf(21, 700));
        Check.due(0, crewOf(700, 20));
        Check.due(2, crewOf(700, 21));
        Check.due(0, crewOf(360, 360));
        Check.due(2, crewOf(361, 360));
    }

    private static Check.Call crewOf(int first, int second) {
        IsleBoats x = line(2);
        boat(x, 0);
        x.sailing(0, 0, 1, 1, first, true);
        x.sailing(0, 1, 0, 1 + first, second, true);
        x.pass(1 + first);
        return () -> x.sailingOf(1, 1);
    }

    private static void crewOfWhatSailedAlone() {
        IsleBoats x = line(2);
        boat(x, 0);
        boat(x, 0);
        x.sailing(0, 1, 0, 5, 700, true);
        x.sailing(0, 0, 1, 900, 700, true);
        x.sailing(1, 0, 1, 5, 700, true);
        x.sailing(0, 0, 1, 10, 700, true);
        x.pass(10);
        // One is CANCELLED, one PLANNED for later, one of another boat.
        cancelled(x, 0, 1);
        sails(x, 2);
        sails(x, 3);
        Check.due(700, () -> x.boatOf(0, 2));
        x.pass(890);
        cancelled(x, 1, 1);
        Check.due(700, () -> x.boatOf(0, 2));
    }

    private static void crewAfterRelief() {
        IsleBoats x = line(2);
        boat(x, 0);
        boat(x, 1);
        x.sailing(0, 0, 1, 1, 600, true);
        x.sailing(0, 1, 0, 650, 121, true);
        x.pass(601);
        Check.due(2, () -> x.against(1));
        x.relieve(0, 1);
        Check.due(0, () -> x.against(1));
        Check.due(600, () -> x.boatOf(0, 2));
        Check.due(0, () -> x.boatOf(1, 2));
        x.pass(49);
        sails(x, 1);
        Check.due(121, () -> x.boatOf(1, 2));
    }

    private static void crewOfTheDay() {
        IsleBoats x = line(2);
        boat(x, 0);
        x.sailing(0, 0, 1, 1439, 700, true);
        x.sailing(0, 1, 0, 2139, 700, true);
        x.sailing(0, 0, 1, 2839, 20, true);
        x.sailing(0, 1, 0, 2859, 1, true);
        x.pass(1439);
        Check.due(700, () -> x.boatOf(0, 2));
        x.pass(1);
        // It SAILS yet, but it departed yesterday.
        Check.due(0, () -> x.boatOf(0, 2));
        x.pass(699);
        sails(x, 1);
        x.pass(700);
        sails(x, 2);
        Check.due(720, () -> x.boatOf(0, 2));
        x.pass(20);
        cancelled(x, 3, 2);
    }

    private static void farthestDeparture() {
        IsleBoats x = line(2);
        boat(x, 0);
        x.pass(1);
        x.sailing(0, 0, 1, 20000, 700, true);
        for (int i = 0; i < 13; i++) {
            x.pass(1500);
        }
        x.pass(499);
        Check.due(IsleBoats.PLANNED, () -> x.sailingOf(0, 0));
        Check.due(20001, () -> x.pass(1));
        sails(x, 0);
        x.pass(699);
        sails(x, 0);
        Check.due(20701, () -> x.pass(1));
        Check.due(IsleBoats.ARRIVED, () -> x.sailingOf(0, 0));
        Check.due(0, () -> x.gap(1, 0));
        Check.due(20701, () -> x.gap(1, 1));
    }

    private static void againstInThisMinute() {
        IsleBoats x = new IsleBoats();
        x.pier(500, 0, 0, true);
        x.pier(500, 0, 0, false);
        boat(x, 0);
        x.sailing(0, 0, 1, 700, 359, true);
        x.sailing(0, 0, 1, 700, 360, true);
        // By its own departure neither would come at night; from the minute 0 on, the first one would.
        Check.due(4, () -> x.against(0));
        Check.due(0, () -> x.against(1));
        x.pass(1);
        Check.due(0, () -> x.against(0));
        x.pass(699);
        sails(x, 0);
    }

    private static void mendedInTime() {
        IsleBoats x = line(2);
        boat(x, 0);
        x.sailing(0, 0, 1, 299, 1, true);
        x.sailing(0, 1, 0, 301, 1, true);
        x.breakDown(0);
        x.pass(298);
        x.breakDown(0);
        x.pass(1);
        sails(x, 0);
        x.pass(1);
        x.breakDown(0);
        x.breakDown(0);
        x.pass(1);
        sails(x, 1);
    }

    private static void relievedInTime() {
        IsleBoats x = line(2);
        boat(x, 0);
        boat(x, 0);
        x.sailing(0, 0, 1, 400, 1, true);
        x.sailing(0, 0, 1, 3000, 1, true);
        x.breakDown(0);
        x.pass(299);
        Check.due(2, () -> x.relieve(0, 1));
        x.pass(1);
        Check.due(IsleBoats.PLANNED, () -> x.sailingOf(0, 0));
        x.pass(100);
        sails(x, 0);
        Check.due(1, () -> x.sailingOf(0, 2));
        Check.due(-1, () -> x.boatOf(1, 0));
        Check.due(0, () -> x.boatOf(0, 0));
    }

    private static boolean has(int set, int reason) {
        return (set >> reason & 1) == 1;
    }

    private static int first(int set) {
        for (int reason = BOAT; reason <= SWELL; reason++) {
            if (has(set, reason)) {
                return reason;
            }
        }
        return 0;
    }

    private static void firstOfEachSetOfReasons() {
        for (int set = 0; set < 64; set += 2) {
            for (int how = BROKEN; how <= RAMP; how++) {
                int due = first(set);
                IsleBoats x = againstAll(set, how);
                Check.due(due, () -> x.against(1));
                x.pass(1);
                Check.due(due, () -> x.sailingOf(1, 1));
                Check.due(due == 0 ? IsleBoats.SAILS : IsleBoats.CANCELLED, () -> x.sailingOf(1, 0));
            }
        }
    }

    /** The minute before the departure of sailing 1, which has all reasons of the set against it, and no other one. */
    private static IsleBoats againstAll(int set, int how) {
        boolean isBoat = has(set, BOAT);
        IsleBoats x = line(2);
        x.pier(has(set, TIDE) ? 0 : 500, 0, 0, !has(set, NIGHT));
        x.boat(1, 1, 1, 1, 4, isBoat && how == RAMP ? 3 : 7, 0);
        x.sailing(0, 0, 1, 1, 700, false);
        x.pass(701);
        x.sailing(0, isBoat && how == ELSEWHERE ? 0 : 1, 2, 609, has(set, CREW) ? 21 : 20, false);
        x.pass(608);
        x.swell(2, has(set, SWELL) ? 5 : 4);
        if (isBoat && how == BROKEN) {
            x.breakDown(0);
        }
        return x;
    }

    private static void firstOfEachSetAtFive() {
        for (int set = 0; set < 64; set += 2) {
            IsleBoats x = new IsleBoats();
            x.pier(has(set, TIDE) ? 0 : 500, 0, 0, true);
            x.pier(500, 0, 0, !has(set, NIGHT));
            x.boat(1, 1, 1, 1, 4, 3, 0);
            x.sailing(0, 0, 1, 1300, 20, false);
            x.swell(0, has(set, SWELL) ? 5 : 4);
            if (has(set, BOAT)) {
                x.breakDown(0);
            }
            x.pass(300);
            int due = first(set & ~(1 << CREW) & ~(1 << TIDE));
            Check.due(due, () -> x.sailingOf(0, 1));
            Check.due(due == 0 ? IsleBoats.PLANNED : IsleBoats.CANCELLED, () -> x.sailingOf(0, 0));
        }
    }
}
