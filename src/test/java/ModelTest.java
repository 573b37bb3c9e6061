/** All promises: runs of 512 calls, drawn from a fixed sequence, answer as the model does. */
public final class ModelTest {
    private static final int RUNS = 1500;
    private static final int CALLS = 512;

    private long seed;
    private IsleBoats x;
    private Model m;
    private int piers;
    private int boats;
    private int sailings;
    private int bookings;

    public static void main(String[] args) {
        ModelTest test = new ModelTest();
        for (int run = 0; run < RUNS && Check.wrong() == 0; run++) {
            test.run(run);
        }
        Check.end();
    }

    private void run(int run) {
        seed = 7919L * run + 17;
        x = new IsleBoats();
        m = new Model();
        piers = boats = sailings = bookings = 0;
        boolean isTame = run % 3 != 0;
        if (isTame) {
            begin();
        }
        for (int call = piers + boats; call < CALLS && Check.wrong() == 0; call++) {
            draw(isTame);
        }
    }

    private int upTo(int most) {
        seed = seed * 6364136223846793005L + 1442695040888963407L;
        return (int) ((seed >>> 33) % (most + 1));
    }

    private boolean coin() {
        return upTo(1) == 1;
    }

    /** Mostly a number within, at times one of the edges or beyond them. */
    private int around(int least, int most) {
        int kind = upTo(59);
        if (kind == 0) {
            return least - 1;
        }
        if (kind == 1) {
            return most + 1;
        }
        return kind < 5 ? least : kind < 8 ? most : least + upTo(most - least);
    }

    private int number(int count) {
        int kind = upTo(79);
        return kind == 0 ? -1 : kind == 1 || count == 0 ? count : upTo(count - 1);
    }

    private void begin() {
        for (int i = 2 + upTo(2); i > 0; i--) {
            callPier(60 + upTo(60), upTo(60), upTo(719), coin());
        }
        for (int i = 2 + upTo(2); i > 0; i--) {
            callBoat(20 + upTo(60), 10 + upTo(20), 20 + upTo(100), upTo(40), 3 + upTo(6), 255 - (coin() ? 0 : 1 << upTo(7)),
                    upTo(piers - 1));
        }
    }

    private void draw(boolean isTame) {
        int kind = upTo(99);
        if (kind < 3) {
            callPier(around(0, 500), around(0, 200), around(0, 719), coin());
        } else if (kind < 5) {
            callBoat(around(1, 500), around(1, 200), around(1, 10000), around(0, 10000), around(0, 9), around(0, 255),
                    number(piers));
        } else if (kind < 8) {
            drawSwell(isTame);
        } else if (kind < 12) {
            drawRepair();
        } else if (kind < 30) {
            drawSailing(isTame);
        } else if (kind < 62) {
            drawBooking(isTame);
        } else if (kind < 72) {
            int minutes = coin() ? around(1, 1500) : 1 + upTo(80);
            Check.same("pass " + minutes, () -> m.pass(minutes), () -> x.pass(minutes));
        } else {
            ask(upTo(9));
        }
    }

    private void callPier(int depth, int range, int phase, boolean isLit) {
        Check.same("pier", () -> m.pier(depth, range, phase, isLit), () -> x.pier(depth, range, phase, isLit));
        piers = count(piers, 8, () -> x.gap(piers, 0));
    }

    private void callBoat(int draught, int length, int weight, int trim, int swell, int set, int home) {
        Check.same("boat", () -> m.boat(draught, length, weight, trim, swell, set, home),
                () -> x.boat(draught, length, weight, trim, swell, set, home));
        boats = count(boats, 6, () -> x.boatOf(boats, 0));
    }

    private int count(int before, int most, Check.Call last) {
        if (before == most) {
            return before;
        }
        try {
            last.answer();
            return before + 1;
        } catch (IndexOutOfBoundsException none) {
            return before;
        }
    }

    private void drawSwell(boolean isTame) {
        int pier = number(piers);
        int swell = isTame && coin() ? upTo(4) : around(0, 9);
        Check.same("swell", () -> m.swell(pier, swell), () -> x.swell(pier, swell));
    }

    private void drawRepair() {
        int boat = number(boats);
        int other = number(boats);
        if (upTo(2) > 0) {
            Check.same("breakDown", () -> m.breakDown(boat) ? 1 : 0, () -> x.breakDown(boat) ? 1 : 0);
        } else {
            Check.same("relieve", () -> m.relieve(boat, other), () -> x.relieve(boat, other));
        }
    }

    private void drawSailing(boolean isTame) {
        int boat = number(boats);
        int at = isTame && coin() ? (boats == 0 || boat < 0 || boat >= boats ? 0 : m.boatOf(boat, 0)) : number(piers);
        int from = at;
        int to = number(piers);
        int ahead = isTame ? 1 + upTo(coin() ? 200 : 3000) : around(1, 20000);
        int duration = isTame && coin() ? 1 + upTo(150) : around(1, 700);
        boolean isLifeline = coin();
        Check.same("sailing", () -> m.sailing(boat, from, to, ahead, duration, isLifeline),
                () -> x.sailing(boat, from, to, ahead, duration, isLifeline));
        sailings = count(sailings, 60, () -> x.sailingOf(sailings, 0));
    }

    private void drawBooking(boolean isTame) {
        int sailing = isTame && sailings > 0 ? Math.max(0, sailings - 1 - upTo(5)) : number(sailings);
        int kind = around(0, 2);
        int length = isTame ? 1 + upTo(14) : around(1, 30);
        int weight = isTame ? 1 + upTo(40) : around(1, 1000);
        int danger = upTo(2) > 0 ? 0 : around(0, 3);
        boolean isUrgent = upTo(3) == 0;
        boolean isLorry = coin();
        Check.same("book", () -> m.book(sailing, kind, length, weight, danger, isUrgent, isLorry),
                () -> x.book(sailing, kind, length, weight, danger, isUrgent, isLorry));
        bookings = count(bookings, 100, () -> x.bookingOf(bookings, 0));
    }

    private void ask(int kind) {
        int pier = number(piers);
        int boat = number(boats);
        int sailing = number(sailings);
        int booking = number(bookings);
        int what = upTo(8) - 1;
        int minute = coin() ? upTo(3000) : around(0, 1000000);
        int cents = around(0, 10000);
        boolean isOff = coin();
        switch (kind) {
            case 0 -> Check.same("tide", () -> m.tide(pier, minute), () -> x.tide(pier, minute));
            case 1 -> Check.same("boatOf " + what, () -> m.boatOf(boat, what), () -> x.boatOf(boat, what));
            case 2 -> Check.same("sailingOf " + what, () -> m.sailingOf(sailing, what), () -> x.sailingOf(sailing, what));
            case 3, 4 -> Check.same("against", () -> m.against(sailing), () -> x.against(sailing));
            case 5 -> Check.same("bookingOf " + what, () -> m.bookingOf(booking, what), () -> x.bookingOf(booking, what));
            case 6 -> Check.same("plan", () -> m.plan(sailing, what, isOff), () -> x.plan(sailing, what, isOff));
            case 7 -> Check.same("gap " + what, () -> m.gap(pier, what), () -> x.gap(pier, what));
            case 8 -> Check.same("rate", () -> m.rate(what - 1, cents), () -> x.rate(what - 1, cents));
            default -> {
                Check.same("performance", m::performance, x::performance);
                Check.same("penalty", m::penalty, x::penalty);
                all();
            }
        }
    }

    /** Everything that can be asked; the calls are no part of the 512, as they change nothing. */
    private void all() {
        for (int i = 0; i < piers; i++) {
            compare("gap", i, 3, m::gap, x::gap);
        }
        for (int i = 0; i < boats; i++) {
            compare("boatOf", i, 3, m::boatOf, x::boatOf);
        }
        for (int i = 0; i < sailings; i++) {
            compare("sailingOf", i, 7, m::sailingOf, x::sailingOf);
            compare("plan", i, 8, (s, place) -> m.plan(s, place, false), (s, place) -> x.plan(s, place, false));
            compare("plan off", i, 8, (s, place) -> m.plan(s, place, true), (s, place) -> x.plan(s, place, true));
        }
        for (int i = 0; i < bookings; i++) {
            compare("bookingOf", i, 6, m::bookingOf, x::bookingOf);
        }
    }

    interface Asking {
        int answer(int number, int what);
    }

    private void compare(String call, int number, int count, Asking want, Asking got) {
        for (int what = 0; what < count; what++) {
            int asked = what;
            Check.same(call + " " + number + " " + asked, () -> want.answer(number, asked),
                    () -> got.answer(number, asked));
        }
    }
}
