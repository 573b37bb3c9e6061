/** Promises 7 (sailing), 13 (sailingOf) and 14 (against): what is against a sailing. */
public final class SailingTest {
    private static final Class<IndexOutOfBoundsException> INDEX = IndexOutOfBoundsException.class;
    private static final Class<IllegalArgumentException> ARGUMENT = IllegalArgumentException.class;
    private static final Class<IllegalStateException> STATE = IllegalStateException.class;

    public static void main(String[] args) {
        argumentsOfSailing();
        numbersAndLimits();
        argumentsOfSailingOf();
        argumentsOfAgainst();
        againstBoat();
        againstRamp();
        againstCrew();
        crewOfTheDayOfDeparture();
        againstTide();
        againstNight();
        againstSwell();
        firstReasonIsTold();
        againstChangesNothing();
        toldOfASailing();
        Check.end();
    }

    private static IsleBoats piers(int count) {
        IsleBoats x = new IsleBoats();
        for (int i = 0; i < count; i++) {
            x.pier(100, 0, 0, true);
        }
        return x;
    }

    private static void argumentsOfSailing() {
        IsleBoats x = piers(2);
        Check.fails(INDEX, () -> x.sailing(0, 0, 1, 1, 1, true));
        x.boat(10, 20, 1000, 1000, 9, 3, 0);
        Check.fails(INDEX, () -> x.sailing(1, 0, 0, 1, 1, true));
        Check.fails(INDEX, () -> x.sailing(-1, 0, 1, 1, 1, true));
        Check.fails(INDEX, () -> x.sailing(0, 2, 1, 1, 1, true));
        Check.fails(INDEX, () -> x.sailing(0, -1, 1, 1, 1, true));
        Check.fails(INDEX, () -> x.sailing(0, 0, 2, 0, 1, true));
        Check.fails(INDEX, () -> x.sailing(0, 0, -1, 1, 0, true));
        Check.fails(INDEX, () -> x.sailing(0, 2, 2, 1, 1, true));
        Check.fails(ARGUMENT, () -> x.sailing(0, 1, 1, 1, 1, true));
        Check.fails(ARGUMENT, () -> x.sailing(0, 0, 1, 0, 1, true));
        Check.fails(ARGUMENT, () -> x.sailing(0, 0, 1, -1, 1, true));
        Check.fails(ARGUMENT, () -> x.sailing(0, 0, 1, 20001, 1, true));
        Check.fails(ARGUMENT, () -> x.sailing(0, 0, 1, 1, 0, true));
        Check.fails(ARGUMENT, () -> x.sailing(0, 0, 1, 1, 701, true));
        Check.fails(INDEX, () -> x.sailingOf(0, 0));
        Check.due(0, () -> x.sailing(0, 0, 1, 1, 1, true));
        Check.due(1, () -> x.sailing(0, 1, 0, 20000, 700, true));
    }

    private static void numbersAndLimits() {
        IsleBoats x = piers(2);
        x.boat(10, 20, 1000, 1000, 9, 3, 0);
        for (int i = 0; i < 60; i++) {
            int number = i;
            Check.due(number, () -> x.sailing(0, 0, 1, 100 + number, 1, true));
        }
        Check.fails(STATE, () -> x.sailing(0, 0, 1, 1, 1, true));
        Check.fails(ARGUMENT, () -> x.sailing(0, 0, 1, 0, 1, true));
        Check.fails(INDEX, () -> x.sailing(1, 0, 1, 0, 1, true));
        Check.fails(INDEX, () -> x.sailingOf(60, 0));
        x.pass(1500);
        Check.fails(STATE, () -> x.sailing(0, 0, 1, 1, 1, true));
    }

    private static void argumentsOfSailingOf() {
        IsleBoats x = piers(2);
        x.boat(10, 20, 1000, 1000, 9, 3, 0);
        Check.fails(INDEX, () -> x.sailingOf(0, 7));
        x.sailing(0, 0, 1, 5, 1, true);
        Check.fails(INDEX, () -> x.sailingOf(-1, 0));
        Check.fails(INDEX, () -> x.sailingOf(1, -1));
        Check.fails(ARGUMENT, () -> x.sailingOf(0, -1));
        Check.fails(ARGUMENT, () -> x.sailingOf(0, 7));
    }

    private static void argumentsOfAgainst() {
        IsleBoats x = piers(2);
        x.boat(10, 20, 1000, 1000, 9, 3, 0);
        Check.fails(INDEX, () -> x.against(0));
        x.sailing(0, 0, 1, 5, 1, true);
        x.sailing(0, 0, 1, 5, 1, true);
        Check.fails(INDEX, () -> x.against(-1));
        Check.fails(INDEX, () -> x.against(2));
        Check.due(0, () -> x.against(0));
        x.pass(5);
        Check.fails(STATE, () -> x.against(0));
        Check.fails(STATE, () -> x.against(1));
        x.pass(5);
        Check.fails(STATE, () -> x.against(0));
    }

    private static void againstBoat() {
        IsleBoats x = piers(3);
        x.boat(10, 20, 1000, 1000, 9, 7, 0);
        x.sailing(0, 0, 1, 400, 10, true);
        x.sailing(0, 1, 0, 405, 10, true);
        x.sailing(0, 1, 0, 410, 10, true);
        x.sailing(0, 1, 2, 420, 10, true);
        Check.due(0, () -> x.against(0));
        Check.due(1, () -> x.against(1));
        x.pass(400);
        Check.due(1, () -> x.against(1));
        Check.due(1, () -> x.against(2));
        x.pass(9);
        Check.due(IsleBoats.CANCELLED, () -> x.sailingOf(1, 0));
        Check.due(1, () -> x.sailingOf(1, 1));
        x.pass(1);
        // It arrives, and departs again in the same minute.
        Check.due(IsleBoats.ARRIVED, () -> x.sailingOf(0, 0));
        Check.due(IsleBoats.SAILS, () -> x.sailingOf(2, 0));
        x.pass(10);
        Check.due(IsleBoats.ARRIVED, () -> x.sailingOf(2, 0));
        Check.due(IsleBoats.CANCELLED, () -> x.sailingOf(3, 0));
        Check.due(1, () -> x.sailingOf(3, 1));
        x.sailing(0, 0, 2, 10, 10, true);
        x.breakDown(0);
        Check.due(1, () -> x.against(4));
        x.breakDown(0);
        Check.due(0, () -> x.against(4));
        x.breakDown(0);
        x.pass(10);
        Check.due(IsleBoats.CANCELLED, () -> x.sailingOf(4, 0));
        Check.due(1, () -> x.sailingOf(4, 1));
    }

    private static void againstRamp() {
        IsleBoats x = piers(3);
        x.boat(10, 20, 1000, 1000, 9, 1 + 4, 0);
        x.boat(10, 20, 1000, 1000, 9, 2 + 4, 0);
        x.boat(10, 20, 1000, 1000, 9, 255 - 4, 0);
        x.sailing(0, 0, 1, 400, 10, true);
        x.sailing(0, 0, 2, 401, 10, true);
        x.sailing(1, 0, 1, 402, 10, true);
        x.sailing(2, 0, 1, 403, 10, true);
        x.sailing(2, 1, 2, 500, 10, true);
        Check.due(1, () -> x.against(0));
        Check.due(0, () -> x.against(1));
        Check.due(1, () -> x.against(2));
        Check.due(0, () -> x.against(3));
        x.pass(399);
        // A ramp is no matter of the decision at five.
        Check.due(IsleBoats.PLANNED, () -> x.sailingOf(0, 0));
        x.pass(30);
        Check.due(1, () -> x.sailingOf(0, 1));
        Check.due(IsleBoats.ARRIVED, () -> x.sailingOf(1, 0));
        Check.due(1, () -> x.sailingOf(2, 1));
        Check.due(IsleBoats.ARRIVED, () -> x.sailingOf(3, 0));
        Check.due(1, () -> x.against(4));
    }

    private static void againstCrew() {
        IsleBoats x = piers(2);
        x.boat(10, 20, 1000, 1000, 9, 3, 0);
        x.boat(10, 20, 1000, 1000, 9, 3, 0);
        x.sailing(0, 0, 1, 10, 400, true);
        x.sailing(0, 1, 0, 420, 321, true);
        x.sailing(0, 1, 0, 421, 320, true);
        x.sailing(0, 0, 1, 800, 1, true);
        x.sailing(1, 0, 1, 801, 700, true);
        x.sailing(0, 0, 1, 1440, 700, true);
        x.pass(415);
        Check.due(2, () -> x.against(1));
        Check.due(0, () -> x.against(2));
        x.pass(386);
        Check.due(2, () -> x.sailingOf(1, 1));
        Check.due(IsleBoats.ARRIVED, () -> x.sailingOf(2, 0));
        Check.due(2, () -> x.sailingOf(3, 1));
        Check.due(IsleBoats.SAILS, () -> x.sailingOf(4, 0));
        Check.due(2, () -> x.against(5));
        x.pass(639);
        Check.due(IsleBoats.SAILS, () -> x.sailingOf(5, 0));
        Check.due(720, () -> x.boatOf(0, 2) + 20);
    }

    private static void crewOfTheDayOfDeparture() {
        IsleBoats x = piers(2);
        x.boat(10, 20, 1000, 1000, 9, 3, 0);
        x.sailing(0, 0, 1, 1439, 500, true);
        x.sailing(0, 1, 0, 2000, 300, true);
        x.sailing(0, 0, 1, 2400, 420, true);
        x.pass(1440);
        Check.due(0, () -> x.boatOf(0, 2));
        x.pass(960);
        Check.due(IsleBoats.ARRIVED, () -> x.sailingOf(1, 0));
        Check.due(IsleBoats.SAILS, () -> x.sailingOf(2, 0));
        Check.due(720, () -> x.boatOf(0, 2));
    }

    private static void againstTide() {
        IsleBoats x = new IsleBoats();
        x.pier(30, 20, 0, true);
        x.pier(50, 0, 0, true);
        x.boat(30, 20, 1000, 1000, 9, 3, 0);
        x.boat(51, 20, 1000, 1000, 9, 3, 0);
        x.boat(50, 20, 1000, 1000, 9, 3, 0);
        x.sailing(0, 0, 1, 500, 20, true);
        x.sailing(1, 0, 1, 500, 20, true);
        x.sailing(2, 0, 1, 500, 20, true);
        // The tide of pier 0 is 0 from 172 on, -1 from 189 on.
        x.pass(172);
        Check.due(0, () -> x.against(0));
        x.pass(16);
        Check.due(0, () -> x.against(0));
        x.pass(1);
        Check.due(3, () -> x.against(0));
        x.pass(171);
        Check.due(3, () -> x.against(0));
        x.pass(140);
        Check.due(3, () -> x.sailingOf(0, 1));
        x.pass(220);
        x.sailing(1, 0, 1, 50, 20, true);
        x.sailing(2, 0, 1, 50, 20, true);
        // High water at 720: 50 at pier 0, and 50 at pier 1.
        Check.due(3, () -> x.against(3));
        Check.due(0, () -> x.against(4));
        x.pass(9);
        Check.due(3, () -> x.against(4));
        tideOfTheLastPier();
    }

    private static void tideOfTheLastPier() {
        IsleBoats x = new IsleBoats();
        x.pier(100, 0, 0, true);
        x.pier(30, 20, 0, true);
        x.boat(30, 20, 1000, 1000, 9, 3, 0);
        x.boat(30, 20, 1000, 1000, 9, 3, 0);
        x.sailing(0, 0, 1, 100, 88, false);
        x.sailing(1, 0, 1, 100, 89, false);
        x.pass(99);
        Check.due(0, () -> x.against(0));
        Check.due(0, () -> x.against(1));
        x.pass(1);
        Check.due(IsleBoats.SAILS, () -> x.sailingOf(0, 0));
        Check.due(3, () -> x.sailingOf(1, 1));
    }

    private static void againstNight() {
        IsleBoats x = new IsleBoats();
        x.pier(100, 0, 0, false);
        x.pier(100, 0, 0, false);
        x.pier(100, 0, 0, true);
        x.boat(10, 20, 1000, 1000, 9, 7, 0);
        x.sailing(0, 0, 1, 5000, 60, true);
        x.sailing(0, 0, 2, 5000, 60, true);
        Check.due(4, () -> x.against(0));
        Check.due(0, () -> x.against(1));
        x.pass(299);
        Check.due(4, () -> x.against(0));
        x.pass(1);
        Check.due(0, () -> x.against(0));
        x.pass(959);
        Check.due(0, () -> x.against(0));
        x.pass(1);
        Check.due(4, () -> x.against(0));
        x.pass(180);
        Check.due(4, () -> x.against(0));
        x.pass(299);
        Check.due(4, () -> x.against(0));
        x.pass(1);
        Check.due(0, () -> x.against(0));
    }

    private static void againstSwell() {
        IsleBoats x = piers(3);
        x.boat(10, 20, 1000, 1000, 4, 7, 0);
        x.sailing(0, 0, 1, 400, 10, true);
        x.swell(2, 9);
        x.swell(0, 4);
        x.swell(1, 4);
        Check.due(0, () -> x.against(0));
        x.swell(0, 5);
        Check.due(5, () -> x.against(0));
        x.swell(0, 0);
        x.swell(1, 5);
        Check.due(5, () -> x.against(0));
        x.swell(1, 0);
        x.pass(399);
        x.swell(1, 9);
        x.pass(1);
        Check.due(IsleBoats.CANCELLED, () -> x.sailingOf(0, 0));
        Check.due(5, () -> x.sailingOf(0, 1));
    }

    private static void firstReasonIsTold() {
        IsleBoats x = new IsleBoats();
        x.pier(20, 0, 0, false);
        x.pier(20, 0, 0, false);
        x.boat(10, 20, 1000, 1000, 4, 3, 0);
        x.boat(30, 20, 1000, 1000, 4, 3, 0);
        x.sailing(0, 0, 1, 400, 700, true);
        x.sailing(1, 0, 1, 3000, 30, true);
        x.pass(1100);
        x.sailing(0, 1, 0, 200, 30, true);
        x.swell(1, 5);
        x.breakDown(0);
        Check.due(1, () -> x.against(2));
        x.breakDown(0);
        Check.due(2, () -> x.against(2));
        x.pass(200);
        // Against it are the crew, the night and the swell.
        Check.due(2, () -> x.sailingOf(2, 1));
        // Against the second boat are the tide, the night and the swell.
        Check.due(3, () -> x.against(1));
        x.relieve(1, 0);
        Check.due(1, () -> x.against(1));
    }

    private static void againstChangesNothing() {
        IsleBoats x = piers(2);
        x.boat(10, 20, 1000, 1000, 4, 3, 0);
        x.sailing(0, 1, 0, 400, 10, true);
        x.book(0, 0, 1, 1, 0, true, true);
        Check.due(1, () -> x.against(0));
        Check.due(1, () -> x.against(0));
        Check.due(IsleBoats.PLANNED, () -> x.sailingOf(0, 0));
        Check.due(0, () -> x.sailingOf(0, 1));
        Check.due(0, () -> x.bookingOf(0, 3));
        Check.due(1.0, x::performance);
    }

    private static void toldOfASailing() {
        IsleBoats x = piers(2);
        x.boat(10, 10, 100, 50, 4, 3, 0);
        x.boat(10, 10, 100, 50, 4, 3, 0);
        x.sailing(1, 0, 1, 400, 10, true);
        x.book(0, 0, 6, 30, 0, false, false);
        x.book(0, 0, 6, 20, 0, false, false);
        x.book(0, 0, 4, 10, 0, false, false);
        x.book(0, 0, 6, 10, 0, false, false);
        x.book(0, 0, 1, 90, 0, false, false);
        for (int what = 0; what < 7; what++) {
            int asked = what;
            Check.due(asked == 2 ? 1 : 0, () -> x.sailingOf(0, asked));
        }
        x.pass(400);
        for (int round = 1; round < 3; round++) {
            int state = round;
            Check.due(state, () -> x.sailingOf(0, 0));
            Check.due(0, () -> x.sailingOf(0, 1));
            Check.due(1, () -> x.sailingOf(0, 2));
            Check.due(3, () -> x.sailingOf(0, 3));
            Check.due(30, () -> x.sailingOf(0, 4));
            Check.due(30, () -> x.sailingOf(0, 5));
            Check.due(2, () -> x.sailingOf(0, 6));
            x.pass(10);
        }
    }
}
