import java.util.function.IntUnaryOperator;

/** Everything that an object can be asked, as one text: two objects of the same state give the same text. */
final class Answers {
    private static final int MOST_PIERS = 8, MOST_BOATS = 6, MOST_SAILINGS = 60, MOST_BOOKINGS = 100;

    private interface Question {
        int answer(int number, int what);
    }

    private Answers() {
    }

    static String of(IsleBoats x) {
        StringBuilder told = new StringBuilder();
        ask(told, "gap", MOST_PIERS, 3, x::gap);
        ask(told, "tide", MOST_PIERS, 3, (pier, what) -> x.tide(pier, 90 * what));
        ask(told, "boatOf", MOST_BOATS, 3, x::boatOf);
        ask(told, "sailingOf", MOST_SAILINGS, 7, x::sailingOf);
        ask(told, "against", MOST_SAILINGS, 1, (sailing, what) -> x.against(sailing));
        ask(told, "plan", MOST_SAILINGS, 9, (sailing, place) -> x.plan(sailing, place, false));
        ask(told, "plan off", MOST_SAILINGS, 9, (sailing, place) -> x.plan(sailing, place, true));
        ask(told, "bookingOf", MOST_BOOKINGS, 6, x::bookingOf);
        told.append(x.performance()).append(' ').append(x.penalty());
        return told.toString();
    }

    static int piers(IsleBoats x) {
        return count(MOST_PIERS, pier -> x.gap(pier, 0));
    }

    static int boats(IsleBoats x) {
        return count(MOST_BOATS, boat -> x.boatOf(boat, 0));
    }

    static int sailings(IsleBoats x) {
        return count(MOST_SAILINGS, sailing -> x.sailingOf(sailing, 0));
    }

    static int bookings(IsleBoats x) {
        return count(MOST_BOOKINGS, booking -> x.bookingOf(booking, 0));
    }

    private static int count(int most, IntUnaryOperator call) {
        for (int number = 0; number < most; number++) {
            try {
                call.applyAsInt(number);
            } catch (IndexOutOfBoundsException none) {
                return number;
            }
        }
        return most;
    }

    private static void ask(StringBuilder told, String call, int most, int kinds, Question question) {
        for (int number = 0; number < most; number++) {
            told.append('\n').append(call).append(' ').append(number).append(':');
            for (int what = 0; what < kinds; what++) {
                told.append(' ').append(answer(question, number, what));
            }
        }
    }

    private static String answer(Question question, int number, int what) {
        try {
            return String.valueOf(question.answer(number, what));
        } catch (RuntimeException thrown) {
            return thrown.getClass().getSimpleName();
        }
    }
}
