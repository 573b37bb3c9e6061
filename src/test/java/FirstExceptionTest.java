/** Where several exceptions could be thrown: IndexOutOfBounds first, then IllegalArgument, then IllegalState. */
public final class FirstExceptionTest {
    private static final Class<IndexOutOfBoundsException> INDEX = IndexOutOfBoundsException.class;
    private static final Class<IllegalArgumentException> ARGUMENT = IllegalArgumentException.class;
    private static final Class<IllegalStateException> STATE = IllegalStateException.class;

    public static void main(String[] args) {
        IsleBoats x = full();
        pier(x);
        boat(x);
        swellAndRate(x);
        relieve(x);
        sailing(x);
        bookOfPlanned(x);
        bookOfOthers(x);
        asking(x);
        against(x);
        Check.end();
    }

    /** As many as there may be of all; sailing 0 SAILS, 1 is CANCELLED, 2 has ARRIVED, the others are PLANNED. */
    private static IsleBoats full() {
        IsleBoats x = new IsleBoats();
        for (int i = 0; i < 8; i++) {
            x.pier(100, 0, 0, true);
        }
        for (int i = 0; i < 6; i++) {
            x.boat(10, 20, 1000, 1000, 4, 255, 0);
        }
        x.sailing(0, 0, 1, 400, 100, true);
        x.sailing(0, 0, 1, 400, 100, true);
        x.sailing(1, 0, 1, 400, 10, true);
        for (int i = 3; i < 60; i++) {
            x.sailing(2, 0, 1, 20000, 10, true);
        }
        for (int i = 0; i < 100; i++) {
            x.book(3, 1, 1, 1, 0, false, false);
        }
        x.pass(410);
        Check.due(IsleBoats.SAILS, () -> x.sailingOf(0, 0));
        Check.due(IsleBoats.CANCELLED, () -> x.sailingOf(1, 0));
        Check.due(IsleBoats.ARRIVED, () -> x.sailingOf(2, 0));
        Check.due(IsleBoats.PLANNED, () -> x.sailingOf(3, 0));
        return x;
    }

    private static void pier(IsleBoats x) {
        Check.fails(STATE, () -> x.pier(1, 1, 1, true));
        Check.fails(ARGUMENT, () -> x.pier(501, 1, 1, true));
        Check.fails(ARGUMENT, () -> x.pier(1, 201, 1, true));
        Check.fails(ARGUMENT, () -> x.pier(1, 1, 720, true));
    }

    private static void boat(IsleBoats x) {
        Check.fails(STATE, () -> x.boat(1, 1, 1, 1, 1, 1, 7));
        Check.fails(INDEX, () -> x.boat(1, 1, 1, 1, 1, 1, 8));
        Check.fails(ARGUMENT, () -> x.boat(0, 1, 1, 1, 1, 1, 7));
        Check.fails(ARGUMENT, () -> x.boat(1, 0, 1, 1, 1, 1, 7));
        Check.fails(ARGUMENT, () -> x.boat(1, 1, 0, 1, 1, 1, 7));
        Check.fails(ARGUMENT, () -> x.boat(1, 1, 1, -1, 1, 1, 7));
        Check.fails(ARGUMENT, () -> x.boat(1, 1, 1, 1, -1, 1, 7));
        Check.fails(ARGUMENT, () -> x.boat(1, 1, 1, 1, 1, -1, 7));
        Check.fails(INDEX, () -> x.boat(0, 1, 1, 1, 1, 1, 8));
        Check.fails(INDEX, () -> x.boat(1, 0, 1, 1, 1, 1, 8));
        Check.fails(INDEX, () -> x.boat(1, 1, 0, 1, 1, 1, 8));
        Check.fails(INDEX, () -> x.boat(1, 1, 1, -1, 1, 1, 8));
        Check.fails(INDEX, () -> x.boat(1, 1, 1, 1, -1, 1, 8));
        Check.fails(INDEX, () -> x.boat(1, 1, 1, 1, 1, 256, -1));
    }

    private static void swellAndRate(IsleBoats x) {
        Check.fails(INDEX, () -> x.swell(8, 10));
        Check.fails(INDEX, () -> x.swell(-1, -1));
        Check.fails(INDEX, () -> x.rate(3, 10001));
        Check.fails(INDEX, () -> x.rate(-1, -1));
    }

    private static void relieve(IsleBoats x) {
        Check.fails(ARGUMENT, () -> x.relieve(5, 5));
        Check.fails(INDEX, () -> x.relieve(6, 6));
        Check.fails(INDEX, () -> x.relieve(-1, -1));
    }

    private static void sailing(IsleBoats x) {
        Check.fails(STATE, () -> x.sailing(5, 0, 7, 1, 1, true));
        Check.fails(ARGUMENT, () -> x.sailing(5, 7, 7, 1, 1, true));
        Check.fails(ARGUMENT, () -> x.sailing(5, 0, 7, 0, 1, true));
        Check.fails(ARGUMENT, () -> x.sailing(5, 0, 7, 1, 701, true));
        Check.fails(INDEX, () -> x.sailing(6, 0, 7, 1, 1, true));
        Check.fails(INDEX, () -> x.sailing(5, 8, 7, 1, 1, true));
        Check.fails(INDEX, () -> x.sailing(5, 0, 8, 1, 1, true));
        Check.fails(INDEX, () -> x.sailing(6, 7, 7, 1, 1, true));
        Check.fails(INDEX, () -> x.sailing(5, 8, 8, 1, 1, true));
        Check.fails(INDEX, () -> x.sailing(5, -1, -1, 1, 1, true));
        Check.fails(INDEX, () -> x.sailing(6, 0, 7, 0, 1, true));
        Check.fails(INDEX, () -> x.sailing(5, 8, 7, 20001, 1, true));
        Check.fails(INDEX, () -> x.sailing(5, 0, 8, 1, 0, true));
    }

    private static void bookOfPlanned(IsleBoats x) {
        Check.fails(STATE, () -> x.book(3, 2, 1, 1, 0, true, true));
        Check.fails(INDEX, () -> x.book(60, 2, 1, 1, 0, true, true));
        Check.fails(INDEX, () -> x.book(3, 3, 1, 1, 0, true, true));
        Check.fails(ARGUMENT, () -> x.book(3, 2, 0, 1, 0, true, true));
        Check.fails(ARGUMENT, () -> x.book(3, 2, 1, 0, 0, true, true));
        Check.fails(ARGUMENT, () -> x.book(3, 2, 1, 1, 4, true, true));
        Check.fails(INDEX, () -> x.book(60, 2, 31, 1, 0, true, true));
        Check.fails(INDEX, () -> x.book(-1, 2, 1, 1001, 0, true, true));
        Check.fails(INDEX, () -> x.book(3, -1, 1, 1, -1, true, true));
    }

    private static void bookOfOthers(IsleBoats x) {
        for (int i = 0; i < 3; i++) {
            int notPlanned = i;
            Check.fails(STATE, () -> x.book(notPlanned, 2, 1, 1, 0, true, true));
            Check.fails(INDEX, () -> x.book(notPlanned, 3, 1, 1, 0, true, true));
            Check.fails(INDEX, () -> x.book(notPlanned, -1, 31, 0, 4, true, true));
            Check.fails(ARGUMENT, () -> x.book(notPlanned, 2, 31, 1, 0, true, true));
            Check.fails(ARGUMENT, () -> x.book(notPlanned, 2, 1, 1001, 0, true, true));
            Check.fails(ARGUMENT, () -> x.book(notPlanned, 2, 1, 1, -1, true, true));
        }
    }

    private static void asking(IsleBoats x) {
        Check.fails(INDEX, () -> x.tide(8, -1));
        Check.fails(INDEX, () -> x.tide(-1, 1000001));
        Check.fails(INDEX, () -> x.boatOf(6, 3));
        Check.fails(INDEX, () -> x.boatOf(-1, -1));
        Check.fails(INDEX, () -> x.sailingOf(60, 7));
        Check.fails(INDEX, () -> x.sailingOf(-1, -1));
        Check.fails(INDEX, () -> x.bookingOf(100, 6));
        Check.fails(INDEX, () -> x.bookingOf(-1, -1));
        Check.fails(INDEX, () -> x.plan(60, -1, true));
        Check.fails(INDEX, () -> x.gap(8, 3));
        Check.fails(INDEX, () -> x.gap(-1, -1));
    }

    private static void against(IsleBoats x) {
        Check.fails(INDEX, () -> x.against(60));
        Check.fails(INDEX, () -> x.against(-1));
        Check.fails(STATE, () -> x.against(0));
        Check.fails(STATE, () -> x.against(1));
        Check.fails(STATE, () -> x.against(2));
        Check.due(0, () -> x.against(3));
    }
}
