/** Promises 3 (boat), 5 (breakDown), 6 (relieve) and 12 (boatOf). */
public final class BoatTest {
    private static final Class<IndexOutOfBoundsException> INDEX = IndexOutOfBoundsException.class;
    private static final Class<IllegalArgumentException> ARGUMENT = IllegalArgumentException.class;
    private static final Class<IllegalStateException> STATE = IllegalStateException.class;

    public static void main(String[] args) {
        numbersAndLimits();
        argumentsOfBoat();
        breaks();
        brokenAtSea();
        reliefs();
        reliefOfPlannedAlone();
        whereItLies();
        crewMinutesOfToday();
        argumentsOfBoatOf();
        Check.end();
    }

    private static IsleBoats twoPiers() {
        IsleBoats x = new IsleBoats();
        x.pier(100, 0, 0, true);
        x.pier(100, 0, 0, true);
        return x;
    }

    private static int plainBoat(IsleBoats x, int home) {
        return x.boat(10, 20, 1000, 1000, 9, 3, home);
    }

    private static void numbersAndLimits() {
        IsleBoats x = twoPiers();
        for (int i = 0; i < 6; i++) {
            int number = i;
            Check.due(number, () -> plainBoat(x, number % 2));
            Check.due(number % 2, () -> x.boatOf(number, 0));
        }
        Check.fails(STATE, () -> plainBoat(x, 0));
        Check.fails(ARGUMENT, () -> x.boat(0, 1, 1, 1, 1, 1, 0));
        Check.fails(INDEX, () -> x.boat(0, 1, 1, 1, 1, 1, 2));
        Check.fails(INDEX, () -> x.boatOf(6, 0));
    }

    private static void argumentsOfBoat() {
        IsleBoats x = twoPiers();
        Check.fails(INDEX, () -> x.boat(1, 1, 1, 1, 1, 1, -1));
        Check.fails(INDEX, () -> x.boat(1, 1, 1, 1, 1, 1, 2));
        Check.fails(ARGUMENT, () -> x.boat(0, 1, 1, 1, 1, 1, 0));
        Check.fails(ARGUMENT, () -> x.boat(501, 1, 1, 1, 1, 1, 0));
        Check.fails(ARGUMENT, () -> x.boat(1, 0, 1, 1, 1, 1, 0));
        Check.fails(ARGUMENT, () -> x.boat(1, 201, 1, 1, 1, 1, 0));
        Check.fails(ARGUMENT, () -> x.boat(1, 1, 0, 1, 1, 1, 0));
        Check.fails(ARGUMENT, () -> x.boat(1, 1, 10001, 1, 1, 1, 0));
        Check.fails(ARGUMENT, () -> x.boat(1, 1, 1, -1, 1, 1, 0));
        Check.fails(ARGUMENT, () -> x.boat(1, 1, 1, 10001, 1, 1, 0));
        Check.fails(ARGUMENT, () -> x.boat(1, 1, 1, 1, -1, 1, 0));
        Check.fails(ARGUMENT, () -> x.boat(1, 1, 1, 1, 10, 1, 0));
        Check.fails(ARGUMENT, () -> x.boat(1, 1, 1, 1, 1, -1, 0));
        Check.fails(ARGUMENT, () -> x.boat(1, 1, 1, 1, 1, 256, 0));
        Check.fails(INDEX, () -> x.boatOf(0, 0));
        Check.due(0, () -> x.boat(1, 1, 1, 0, 0, 0, 0));
        Check.due(1, () -> x.boat(500, 200, 10000, 10000, 9, 255, 1));
    }

    private static void breaks() {
        IsleBoats x = twoPiers();
        Check.fails(INDEX, () -> x.breakDown(0) ? 1 : 0);
        plainBoat(x, 0);
        plainBoat(x, 0);
        Check.yes(true, () -> x.breakDown(1));
        Check.due(1, () -> x.boatOf(1, 1));
        Check.due(0, () -> x.boatOf(0, 1));
        Check.yes(false, () -> x.breakDown(1));
        Check.due(0, () -> x.boatOf(1, 1));
        Check.yes(true, () -> x.breakDown(1));
        Check.fails(INDEX, () -> x.breakDown(2) ? 1 : 0);
        Check.fails(INDEX, () -> x.breakDown(-1) ? 1 : 0);
    }

    private static void brokenAtSea() {
        IsleBoats x = twoPiers();
        plainBoat(x, 0);
        x.sailing(0, 0, 1, 5, 10, true);
        x.pass(5);
        Check.yes(true, () -> x.breakDown(0));
        x.pass(10);
        Check.due(IsleBoats.ARRIVED, () -> x.sailingOf(0, 0));
        Check.due(1, () -> x.boatOf(0, 0));
    }

    private static void reliefs() {
        IsleBoats x = twoPiers();
        plainBoat(x, 0);
        Check.fails(ARGUMENT, () -> x.relieve(0, 0));
        Check.fails(INDEX, () -> x.relieve(0, 1));
        Check.fails(INDEX, () -> x.relieve(1, 0));
        Check.fails(INDEX, () -> x.relieve(1, 1));
        Check.fails(INDEX, () -> x.relieve(0, -1));
        Check.fails(INDEX, () -> x.relieve(-1, -1));
        plainBoat(x, 0);
        plainBoat(x, 0);
        x.sailing(0, 0, 1, 50, 10, true);
        x.sailing(1, 0, 1, 60, 10, true);
        x.sailing(0, 0, 1, 70, 10, true);
        x.sailing(2, 0, 1, 80, 10, true);
        x.breakDown(0);
        Check.due(2, () -> x.relieve(0, 1));
        Check.due(1, () -> x.sailingOf(0, 2));
        Check.due(1, () -> x.sailingOf(1, 2));
        Check.due(1, () -> x.sailingOf(2, 2));
        Check.due(2, () -> x.sailingOf(3, 2));
        Check.due(0, () -> x.relieve(0, 1));
        Check.due(3, () -> x.relieve(1, 2));
        Check.due(4, () -> x.relieve(2, 0));
        Check.due(0, () -> x.sailingOf(3, 2));
        Check.due(1, () -> x.against(3));
    }

    private static void reliefOfPlannedAlone() {
        IsleBoats x = twoPiers();
        plainBoat(x, 0);
        plainBoat(x, 1);
        x.sailing(0, 0, 1, 1, 10, true);
        x.sailing(0, 0, 1, 1, 10, true);
        x.sailing(0, 1, 0, 20, 50, true);
        x.sailing(0, 1, 0, 100, 50, true);
        x.pass(20);
        Check.due(IsleBoats.ARRIVED, () -> x.sailingOf(0, 0));
        Check.due(IsleBoats.CANCELLED, () -> x.sailingOf(1, 0));
        Check.due(IsleBoats.SAILS, () -> x.sailingOf(2, 0));
        Check.due(1, () -> x.relieve(0, 1));
        Check.due(0, () -> x.sailingOf(0, 2));
        Check.due(0, () -> x.sailingOf(1, 2));
        Check.due(0, () -> x.sailingOf(2, 2));
        Check.due(1, () -> x.sailingOf(3, 2));
        x.pass(80);
        Check.due(IsleBoats.SAILS, () -> x.sailingOf(3, 0));
        Check.due(50, () -> x.boatOf(1, 2));
        Check.due(60, () -> x.boatOf(0, 2));
    }

    private static void whereItLies() {
        IsleBoats x = twoPiers();
        plainBoat(x, 1);
        x.sailing(0, 1, 0, 3, 4, true);
        x.pass(2);
        Check.due(1, () -> x.boatOf(0, 0));
        x.pass(1);
        Check.due(-1, () -> x.boatOf(0, 0));
        x.pass(3);
        Check.due(-1, () -> x.boatOf(0, 0));
        x.pass(1);
        Check.due(0, () -> x.boatOf(0, 0));
    }

    private static void crewMinutesOfToday() {
        IsleBoats x = twoPiers();
        plainBoat(x, 0);
        plainBoat(x, 1);
        x.sailing(0, 0, 1, 400, 30, true);
        x.sailing(0, 1, 0, 1439, 100, true);
        x.sailing(0, 0, 1, 1600, 7, true);
        x.sailing(0, 0, 1, 410, 600, true);
        Check.due(0, () -> x.boatOf(0, 2));
        x.pass(399);
        Check.due(0, () -> x.boatOf(0, 2));
        x.pass(1);
        Check.due(30, () -> x.boatOf(0, 2));
        Check.due(0, () -> x.boatOf(1, 2));
        x.pass(30);
        Check.due(30, () -> x.boatOf(0, 2));
        x.pass(1009);
        Check.due(130, () -> x.boatOf(0, 2));
        x.pass(1);
        Check.due(0, () -> x.boatOf(0, 2));
        x.pass(160);
        Check.due(7, () -> x.boatOf(0, 2));
    }

    private static void argumentsOfBoatOf() {
        IsleBoats x = twoPiers();
        Check.fails(INDEX, () -> x.boatOf(0, 3));
        plainBoat(x, 0);
        Check.fails(ARGUMENT, () -> x.boatOf(0, 3));
        Check.fails(ARGUMENT, () -> x.boatOf(0, -1));
        Check.fails(INDEX, () -> x.boatOf(-1, -1));
        Check.fails(INDEX, () -> x.boatOf(1, 0));
    }
}
