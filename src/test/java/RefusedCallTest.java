import java.util.List;

/** A call that throws an exception changes nothing: an object that is troubled with such calls is as its twin. */
public final class RefusedCallTest {
    private static final Class<IndexOutOfBoundsException> INDEX = IndexOutOfBoundsException.class;
    private static final Class<IllegalArgumentException> ARGUMENT = IllegalArgumentException.class;
    private static final Class<IllegalStateException> STATE = IllegalStateException.class;

    /** A step of the run, made on both twins; it answers what its last call does. */
    interface Step {
        double on(IsleBoats x);
    }

    private static final List<Step> STEPS = List.of(
            RefusedCallTest::tellPiers, RefusedCallTest::tellBoats, RefusedCallTest::planSailings,
            RefusedCallTest::bookThem, x -> x.swell(1, 5), x -> x.pass(299), x -> x.pass(1), x -> x.swell(1, 0),
            x -> x.pass(100), x -> x.breakDown(0) ? 1 : 0, x -> x.relieve(0, 1), x -> x.pass(30), x -> x.rate(1, 250),
            x -> x.pass(70), x -> x.breakDown(0) ? 1 : 0, RefusedCallTest::fill, x -> x.pass(1500), x -> x.pass(1500));

    public static void main(String[] args) {
        IsleBoats troubled = new IsleBoats();
        IsleBoats twin = new IsleBoats();
        trouble(troubled);
        Check.yes(true, () -> Answers.of(twin).equals(Answers.of(troubled)));
        for (Step step : STEPS) {
            Check.same("a step", () -> step.on(twin), () -> step.on(troubled));
            Check.yes(true, () -> Answers.of(twin).equals(Answers.of(troubled)));
            trouble(troubled);
            Check.yes(true, () -> Answers.of(twin).equals(Answers.of(troubled)));
        }
        theRunIsRich(twin);
        Check.end();
    }

    // ---- the run

    private static double tellPiers(IsleBoats x) {
        x.pier(100, 20, 0, true);
        x.pier(100, 20, 360, true);
        return x.pier(100, 0, 0, false);
    }

    private static double tellBoats(IsleBoats x) {
        x.boat(10, 10, 100, 40, 4, 7, 0);
        return x.boat(10, 10, 100, 40, 9, 7, 0);
    }

    private static double planSailings(IsleBoats x) {
        x.sailing(0, 0, 1, 350, 20, true);
        x.sailing(0, 0, 2, 400, 20, true);
        x.sailing(1, 0, 1, 400, 30, true);
        x.sailing(0, 2, 0, 500, 20, false);
        return x.sailing(0, 0, 1, 2600, 20, true);
    }

    private static double bookThem(IsleBoats x) {
        x.book(0, 2, 4, 30, 1, false, true);
        x.book(1, 1, 5, 20, 0, true, false);
        x.book(2, 0, 4, 30, 2, false, false);
        x.book(2, 0, 4, 10, 0, false, true);
        x.book(3, 1, 4, 10, 0, false, true);
        return x.book(4, 1, 4, 10, 0, false, true);
    }

    private static double fill(IsleBoats x) {
        for (int i = Answers.piers(x); i < 8; i++) {
            x.pier(100, 0, 0, true);
        }
        for (int i = Answers.boats(x); i < 6; i++) {
            x.boat(10, 10, 100, 40, 9, 7, 0);
        }
        for (int i = Answers.sailings(x); i < 60; i++) {
            x.sailing(i % 6, 0, 1 + i % 2, 900 + 40 * i, 20, true);
        }
        for (int i = Answers.bookings(x); i < 100; i++) {
            x.book(i % 50 + 10, i % 3, 4, 20, i % 4, false, true);
        }
        return x.pass(1);
    }

    private static void theRunIsRich(IsleBoats x) {
        int[] seen = new int[4];
        int[] met = new int[4];
        for (int i = 0; i < 60; i++) {
            seen[x.sailingOf(i, 0)]++;
        }
        for (int i = 0; i < 100; i++) {
            met[x.bookingOf(i, 0)]++;
        }
        Check.yes(true, () -> seen[IsleBoats.PLANNED] > 0 && seen[IsleBoats.ARRIVED] > 0);
        Check.yes(true, () -> seen[IsleBoats.CANCELLED] > 0);
        Check.yes(true, () -> met[IsleBoats.WAITS] > 0 && met[IsleBoats.LANDED] > 0 && met[IsleBoats.LEFT] > 0);
    }

    // ---- the refused calls

    private static void trouble(IsleBoats x) {
        noSuchPierOrBoat(x, Answers.piers(x), Answers.boats(x));
        noSuchSailingOrBooking(x, Answers.sailings(x), Answers.bookings(x));
        noSuchClass(x, Answers.sailings(x));
        outOfRangeAnywhere(x);
        outOfRangeOfPiersAndBoats(x, Answers.piers(x), Answers.boats(x));
        outOfRangeOfSailings(x, Answers.boats(x), Answers.sailings(x));
        outOfRangeOfBookings(x, Answers.sailings(x), Answers.bookings(x));
        noMoreThanTold(x);
        notPlanned(x);
    }

    private static void noSuchPierOrBoat(IsleBoats x, int piers, int boats) {
        for (int none : new int[] {-1, 8, Integer.MIN_VALUE, Integer.MAX_VALUE, piers}) {
            Check.fails(INDEX, () -> x.boat(10, 10, 10, 10, 1, 7, none));
            Check.fails(INDEX, () -> x.swell(none, 3));
            Check.fails(INDEX, () -> x.sailing(0, none, 0, 1, 1, true));
            Check.fails(INDEX, () -> x.sailing(0, 0, none, 1, 1, true));
            Check.fails(INDEX, () -> x.tide(none, 0));
            Check.fails(INDEX, () -> x.gap(none, 0));
        }
        for (int none : new int[] {-1, 6, Integer.MIN_VALUE, Integer.MAX_VALUE, boats}) {
            Check.fails(INDEX, () -> x.breakDown(none) ? 1 : 0);
            Check.fails(INDEX, () -> x.relieve(none, 0));
            Check.fails(INDEX, () -> x.relieve(0, none));
            Check.fails(INDEX, () -> x.sailing(none, 0, 1, 1, 1, true));
            Check.fails(INDEX, () -> x.boatOf(none, 0));
        }
    }

    private static void noSuchSailingOrBooking(IsleBoats x, int sailings, int bookings) {
        for (int none : new int[] {-1, 60, Integer.MIN_VALUE, Integer.MAX_VALUE, sailings}) {
            Check.fails(INDEX, () -> x.book(none, 1, 1, 1, 0, true, true));
            Check.fails(INDEX, () -> x.sailingOf(none, 0));
            Check.fails(INDEX, () -> x.against(none));
            Check.fails(INDEX, () -> x.plan(none, 0, true));
            Check.fails(INDEX, () -> x.plan(0, Math.min(none, -1), true));
        }
        for (int none : new int[] {-1, 100, Integer.MIN_VALUE, Integer.MAX_VALUE, bookings}) {
            Check.fails(INDEX, () -> x.bookingOf(none, 0));
        }
    }

    private static void noSuchClass(IsleBoats x, int sailings) {
        for (int none : new int[] {-1, 3, Integer.MIN_VALUE, Integer.MAX_VALUE}) {
            Check.fails(INDEX, () -> x.rate(none, 7));
            Check.fails(INDEX, () -> x.book(sailings - 1, none, 1, 1, 0, true, true));
        }
    }

    private static void outOfRangeAnywhere(IsleBoats x) {
        Check.fails(ARGUMENT, () -> x.pier(-1, 1, 1, true));
        Check.fails(ARGUMENT, () -> x.pier(1, 201, 1, true));
        Check.fails(ARGUMENT, () -> x.pier(1, 1, 720, true));
        Check.fails(ARGUMENT, () -> x.rate(0, -1));
        Check.fails(ARGUMENT, () -> x.rate(2, 10001));
        Check.fails(ARGUMENT, () -> x.pass(0));
        Check.fails(ARGUMENT, () -> x.pass(-1));
        Check.fails(ARGUMENT, () -> x.pass(1501));
    }

    private static void outOfRangeOfPiersAndBoats(IsleBoats x, int piers, int boats) {
        if (piers == 0) {
            return;
        }
        Check.fails(ARGUMENT, () -> x.boat(0, 1, 1, 1, 1, 1, 0));
        Check.fails(ARGUMENT, () -> x.boat(1, 201, 1, 1, 1, 1, 0));
        Check.fails(ARGUMENT, () -> x.boat(1, 1, 10001, 1, 1, 1, 0));
        Check.fails(ARGUMENT, () -> x.boat(1, 1, 1, -1, 1, 1, 0));
        Check.fails(ARGUMENT, () -> x.boat(1, 1, 1, 1, 10, 1, 0));
        Check.fails(ARGUMENT, () -> x.boat(1, 1, 1, 1, 1, 256, 0));
        Check.fails(ARGUMENT, () -> x.swell(0, 10));
        Check.fails(ARGUMENT, () -> x.swell(1, -1));
        Check.fails(ARGUMENT, () -> x.tide(0, -1));
        Check.fails(ARGUMENT, () -> x.gap(0, 3));
        if (boats > 0) {
            Check.fails(ARGUMENT, () -> x.relieve(0, 0));
            Check.fails(ARGUMENT, () -> x.relieve(boats - 1, boats - 1));
            Check.fails(ARGUMENT, () -> x.boatOf(0, 3));
        }
    }

    private static void outOfRangeOfSailings(IsleBoats x, int boats, int sailings) {
        if (boats == 0) {
            return;
        }
        Check.fails(ARGUMENT, () -> x.sailing(0, 1, 1, 1, 1, true));
        Check.fails(ARGUMENT, () -> x.sailing(0, 0, 1, 0, 1, true));
        Check.fails(ARGUMENT, () -> x.sailing(0, 0, 1, 20001, 1, true));
        Check.fails(ARGUMENT, () -> x.sailing(0, 0, 1, 1, 0, true));
        Check.fails(ARGUMENT, () -> x.sailing(0, 0, 1, 1, 701, true));
        if (sailings > 0) {
            Check.fails(ARGUMENT, () -> x.sailingOf(0, 7));
            Check.fails(INDEX, () -> x.plan(0, -1, false));
        }
    }

    private static void outOfRangeOfBookings(IsleBoats x, int sailings, int bookings) {
        if (sailings == 0) {
            return;
        }
        int last = sailings - 1;
        Check.fails(ARGUMENT, () -> x.book(last, 0, 0, 1, 0, true, true));
        Check.fails(ARGUMENT, () -> x.book(last, 0, 31, 1, 0, true, true));
        Check.fails(ARGUMENT, () -> x.book(last, 0, 1, 0, 0, true, true));
        Check.fails(ARGUMENT, () -> x.book(last, 0, 1, 1001, 0, true, true));
        Check.fails(ARGUMENT, () -> x.book(last, 0, 1, 1, -1, true, true));
        Check.fails(ARGUMENT, () -> x.book(last, 0, 1, 1, 4, true, true));
        if (bookings > 0) {
            Check.fails(ARGUMENT, () -> x.bookingOf(0, 6));
        }
    }

    private static void noMoreThanTold(IsleBoats x) {
        if (Answers.piers(x) == 8) {
            Check.fails(STATE, () -> x.pier(1, 1, 1, true));
        }
        if (Answers.boats(x) == 6) {
            Check.fails(STATE, () -> x.boat(1, 1, 1, 1, 1, 1, 0));
        }
        if (Answers.sailings(x) == 60) {
            Check.fails(STATE, () -> x.sailing(0, 0, 1, 1, 1, true));
        }
        if (Answers.bookings(x) == 100) {
            Check.fails(STATE, () -> x.book(59, 0, 1, 1, 0, true, true));
        }
    }

    private static void notPlanned(IsleBoats x) {
        for (int i = 0; i < Answers.sailings(x); i++) {
            int sailing = i;
            if (x.sailingOf(sailing, 0) != IsleBoats.PLANNED) {
                Check.fails(STATE, () -> x.book(sailing, 0, 1, 1, 0, true, true));
                Check.fails(STATE, () -> x.against(sailing));
            }
        }
    }
}
