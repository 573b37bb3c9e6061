import java.util.ArrayList;

/** The boats that islands live by, minute by minute; the promises are told in ../shared/DOC.md. */
public final class IsleBoats {
    public static final int NONE = -1;
    public static final int PLANNED = 0, SAILS = 1, ARRIVED = 2, CANCELLED = 3;
    public static final int WAITS = 0, ABOARD = 1, LANDED = 2, LEFT = 3;

    private static final int MOST_PIERS = 8, MOST_BOATS = 6, MOST_SAILINGS = 60, MOST_BOOKINGS = 100;
    private static final int DAY = 1440, DECISION = 300, NIGHT_ENDS = 360, NIGHT_BEGINS = 1320;
    private static final int MOST_CREW_MINUTES = 720;
    private static final int NO_REASON = 0;
    private static final int BY_BOAT = 1, BY_CREW = 2, BY_TIDE = 3, BY_NIGHT = 4, BY_SWELL = 5;
    private static final int BY_DANGER = 1, BY_WEIGHT = 2, BY_LENGTH = 3, BY_TRIM = 4, BY_CANCELLED = 5;
    private static final int CLASSES = 3, ISLANDER = 0, FIRST_RATE = 100, HIGHEST_FARE = 5000;

    private final ArrayList<Pier> piers = new ArrayList<>();
    private final ArrayList<Boat> boats = new ArrayList<>();
    private final ArrayList<Sailing> sailings = new ArrayList<>();
    private final ArrayList<Booking> bookings = new ArrayList<>();
    private final int[] rates = {FIRST_RATE, FIRST_RATE, FIRST_RATE};
    private int now = 0;

    public IsleBoats() {
    }

    public int pier(int depth, int range, int phase, boolean isLit)
            throws IllegalArgumentException, IllegalStateException {
        needWithin(depth, 0, 500);
        needWithin(range, 0, 200);
        needWithin(phase, 0, 719);
        needRoom(piers.size(), MOST_PIERS);
        Pier told = new Pier(piers.size(), depth, range, phase, isLit);
        piers.add(told);
        return told.number;
    }

    public int boat(int draught, int length, int weight, int trim, int swell, int piers, int home)
            throws IndexOutOfBoundsException, IllegalArgumentException, IllegalStateException {
        needNumber(home, this.piers.size());
        needWithin(draught, 1, 500);
        needWithin(length, 1, 200);
        needWithin(weight, 1, 10000);
        needWithin(trim, 0, 10000);
        needWithin(swell, 0, 9);
        needWithin(piers, 0, 255);
        needRoom(boats.size(), MOST_BOATS);
        Boat told = new Boat(boats.size(), draught, length, weight, trim, swell, piers);
        told.pier = home;
        boats.add(told);
        return told.number;
    }

    public int swell(int pier, int swell) throws IndexOutOfBoundsException, IllegalArgumentException {
        needNumber(pier, piers.size());
        needWithin(swell, 0, 9);
        Pier told = piers.get(pier);
        int before = told.swell;
        told.swell = swell;
        return before;
    }

    public boolean breakDown(int boat) throws IndexOutOfBoundsException {
        needNumber(boat, boats.size());
        Boat told = boats.get(boat);
        told.isBroken = !told.isBroken;
        return told.isBroken;
    }

    public int relieve(int boat, int other) throws IndexOutOfBoundsException, IllegalArgumentException {
        needNumber(boat, boats.size());
        needNumber(other, boats.size());
        if (boat == other) {
            throw new IllegalArgumentException("a boat can't relieve itself");
        }
        Boat relieved = boats.get(boat);
        Boat reliever = boats.get(other);
        int taken = 0;
        for (int i = 0; i < sailings.size(); i++) {
            Sailing sailing = sailings.get(i);
            if (sailing.state == PLANNED && sailing.boat == relieved) {
                sailing.boat = reliever;
                taken++;
            }
        }
        return taken;
    }

    public int sailing(int boat, int from, int to, int ahead, int duration, boolean isLifeline)
            throws IndexOutOfBoundsException, IllegalArgumentException, IllegalStateException {
        needNumber(boat, boats.size());
        needNumber(from, piers.size());
        needNumber(to, piers.size());
        if (from == to) {
            throw new IllegalArgumentException("a sailing goes to another pier");
        }
        needWithin(ahead, 1, 20000);
        needWithin(duration, 1, 700);
        needRoom(sailings.size(), MOST_SAILINGS);
        Sailing told = new Sailing(sailings.size(), boats.get(boat), piers.get(from), piers.get(to),
                now + ahead, duration, isLifeline);
        sailings.add(told);
        return told.number;
    }

    public int book(int sailing, int kind, int length, int weight, int danger, boolean isUrgent, boolean isLorry)
            throws IndexOutOfBoundsException, IllegalArgumentException, IllegalStateException {
        needNumber(sailing, sailings.size());
        needNumber(kind, CLASSES);
        needWithin(length, 1, 30);
        needWithin(weight, 1, 1000);
        needWithin(danger, 0, 3);
        Sailing booked = sailings.get(sailing);
        needPlanned(booked);
        needRoom(bookings.size(), MOST_BOOKINGS);
        Booking told = new Booking(booked, kind, length, weight, danger, isUrgent, isLorry);
        told.number = bookings.size();
        bookings.add(told);
        return told.number;
    }

    public int rate(int kind, int cents) throws IndexOutOfBoundsException, IllegalArgumentException {
        needNumber(kind, rates.length);
        needWithin(cents, 0, 10000);
        int before = rates[kind];
        rates[kind] = cents;
        return before;
    }

    public int pass(int minutes) throws IllegalArgumentException {
        needWithin(minutes, 1, 1500);
        int last = now + minutes;
        // Minutes in which nothing can happen are skipped; each step is at least one minute.
        for (int step = 0; step < minutes && now < last; step++) {
            now = nextMinuteOfNote(last);
            letArrive();
            if (now % DAY == DECISION) {
                decideTheDay();
            }
            letDepart();
        }
        return now;
    }

    // ---- asking

    public int tide(int pier, int minute) throws IndexOutOfBoundsException, IllegalArgumentException {
        needNumber(pier, piers.size());
        needWithin(minute, 0, 1000000);
        return piers.get(pier).tideAt(minute);
    }

    public int boatOf(int boat, int what) throws IndexOutOfBoundsException, IllegalArgumentException {
        needNumber(boat, boats.size());
        needWithin(what, 0, 2);
        Boat asked = boats.get(boat);
        if (what == 0) {
            return asked.pier;
        }
        if (what == 1) {
            return asked.isBroken ? 1 : 0;
        }
        return crewMinutes(asked, now / DAY);
    }

    public int sailingOf(int sailing, int what) throws IndexOutOfBoundsException, IllegalArgumentException {
        needNumber(sailing, sailings.size());
        needWithin(what, 0, 6);
        Sailing asked = sailings.get(sailing);
        switch (what) {
            case 0:
                return asked.state;
            case 1:
                return asked.reason;
            case 2:
                return asked.boat.number;
            case 3:
                return asked.aboard.size();
            case 4:
                return asked.firstSide.weight;
            case 5:
                return asked.secondSide.weight;
            default:
                return asked.refused;
        }
    }

    public int against(int sailing) throws IndexOutOfBoundsException, IllegalStateException {
        needNumber(sailing, sailings.size());
        Sailing asked = sailings.get(sailing);
        needPlanned(asked);
        return reasonAtDeparture(asked, now);
    }

    public int bookingOf(int booking, int what) throws IndexOutOfBoundsException, IllegalArgumentException {
        needNumber(booking, bookings.size());
        needWithin(what, 0, 5);
        Booking asked = bookings.get(booking);
        switch (what) {
            case 0:
                return asked.state;
            case 1:
                return asked.sailing.number;
            case 2:
                return asked.reason;
            case 3:
                return asked.points;
            case 4:
                return asked.side;
            default:
                return fare(asked);
        }
    }

    public int plan(int sailing, int place, boolean isOff) throws IndexOutOfBoundsException {
        needNumber(sailing, sailings.size());
        if (place < 0) {
            throw new IndexOutOfBoundsException("there is no such place");
        }
        Sailing asked = sailings.get(sailing);
        ArrayList<Booking> order = isOff ? asked.off : asked.aboard;
        return place < order.size() ? order.get(place).number : NONE;
    }

    public int gap(int pier, int what) throws IndexOutOfBoundsException, IllegalArgumentException {
        needNumber(pier, piers.size());
        needWithin(what, 0, 2);
        Pier asked = piers.get(pier);
        if (what == 0) {
            return asked.gapAt(now);
        }
        return what == 1 ? asked.longestGapAt(now) : asked.longestCauseAt(now);
    }

    public double performance() {
        int all = 0;
        int held = 0;
        for (int i = 0; i < sailings.size(); i++) {
            Sailing sailing = sailings.get(i);
            if (sailing.isLifeline && sailing.state != PLANNED) {
                all++;
                held += sailing.state == CANCELLED ? 0 : 1;
            }
        }
        return all == 0 ? 1.0 : (double) held / (double) all;
    }

    public int penalty() {
        // The performance is never above 1, so that the cast floors.
        return (int) (1000.0 * (1.0 - performance()));
    }

    // ---- what a call needs

    private static void needNumber(int number, int count) {
        if (number < 0 || number >= count) {
            throw new IndexOutOfBoundsException("there is no such number");
        }
    }

    private static void needWithin(int value, int least, int most) {
        if (value < least || value > most) {
            throw new IllegalArgumentException("an argument is out of range");
        }
    }

    private static void needRoom(int count, int most) {
        if (count >= most) {
            throw new IllegalStateException("there are no more than these");
        }
    }

    private static void needPlanned(Sailing sailing) {
        if (sailing.state != PLANNED) {
            throw new IllegalStateException("the sailing is not planned any more");
        }
    }

    // ---- a minute

    private int nextMinuteOfNote(int last) {
        int decision = now - now % DAY + DECISION;
        if (decision <= now) {
            decision += DAY;
        }
        int next = Math.min(last, decision);
        for (int i = 0; i < sailings.size(); i++) {
            Sailing sailing = sailings.get(i);
            int due = sailing.state == PLANNED ? sailing.departure : sailing.arrival();
            if (due > now && due < next) {
                next = due;
            }
        }
        return next;
    }

    private void letArrive() {
        for (int i = 0; i < sailings.size(); i++) {
            Sailing sailing = sailings.get(i);
            if (sailing.state == SAILS && sailing.arrival() == now) {
                sailing.state = ARRIVED;
                sailing.boat.pier = sailing.to.number;
                sailing.to.endGap(now);
                sailing.land();
            }
        }
    }

    private void decideTheDay() {
        for (int i = 0; i < sailings.size(); i++) {
            Sailing sailing = sailings.get(i);
            if (sailing.state == PLANNED && sailing.departure / DAY == now / DAY) {
                int reason = reasonAtDecision(sailing);
                if (reason != NO_REASON) {
                    cancel(sailing, reason);
                }
            }
        }
    }

    private void letDepart() {
        for (int i = 0; i < sailings.size(); i++) {
            Sailing sailing = sailings.get(i);
            if (sailing.state == PLANNED && sailing.departure == now) {
                int reason = reasonAtDeparture(sailing, now);
                if (reason == NO_REASON) {
                    sail(sailing);
                } else {
                    cancel(sailing, reason);
                }
            }
        }
    }

    private void cancel(Sailing sailing, int reason) {
        sailing.state = CANCELLED;
        sailing.reason = reason;
        sailing.to.tellCancelled(reason);
        for (int i = 0; i < bookings.size(); i++) {
            Booking booking = bookings.get(i);
            if (booking.waitsFor(sailing)) {
                leaveBehind(booking, BY_CANCELLED);
            }
        }
    }

    private void sail(Sailing sailing) {
        sailing.state = SAILS;
        sailing.boat.pier = NONE;
        // Who was looked at waits no longer for this sailing, so each turn finds another one.
        for (int turn = 0; turn < bookings.size(); turn++) {
            Booking booking = firstInLine(sailing);
            if (booking == null) {
                return;
            }
            int reason = sailing.refusal(booking);
            if (reason == NO_REASON) {
                sailing.takeAboard(booking);
            } else {
                sailing.refused++;
                leaveBehind(booking, reason);
            }
        }
    }

    private Booking firstInLine(Sailing sailing) {
        Booking first = null;
        for (int i = 0; i < bookings.size(); i++) {
            Booking booking = bookings.get(i);
            if (booking.waitsFor(sailing) && (first == null || booking.isAheadOf(first))) {
                first = booking;
            }
        }
        return first;
    }

    private void leaveBehind(Booking booking, int reason) {
        booking.reason = reason;
        booking.points++;
        Sailing next = nextSailingLike(booking.sailing);
        if (next == null) {
            booking.state = LEFT;
        } else {
            booking.sailing = next;
        }
    }

    private Sailing nextSailingLike(Sailing missed) {
        Sailing next = null;
        for (int i = 0; i < sailings.size(); i++) {
            Sailing sailing = sailings.get(i);
            if (sailing.state == PLANNED && sailing.from == missed.from && sailing.to == missed.to
                    && (next == null || sailing.departure < next.departure)) {
                next = sailing;
            }
        }
        return next;
    }

    // ---- reasons against a sailing

    private int reasonAtDecision(Sailing sailing) {
        if (sailing.boat.isBroken) {
            return BY_BOAT;
        }
        return reasonOfNightOrSwell(sailing, sailing.arrival());
    }

    private int reasonAtDeparture(Sailing sailing, int departure) {
        Boat boat = sailing.boat;
        int arrival = departure + sailing.duration;
        if (boat.isBroken || boat.pier != sailing.from.number
                || !boat.fits(sailing.from) || !boat.fits(sailing.to)) {
            return BY_BOAT;
        }
        if (crewMinutes(boat, departure / DAY) + sailing.duration > MOST_CREW_MINUTES) {
            return BY_CREW;
        }
        if (sailing.from.waterAt(departure) < boat.draught || sailing.to.waterAt(arrival) < boat.draught) {
            return BY_TIDE;
        }
        return reasonOfNightOrSwell(sailing, arrival);
    }

    private static int reasonOfNightOrSwell(Sailing sailing, int arrival) {
        if (!sailing.to.isLit && isNight(arrival)) {
            return BY_NIGHT;
        }
        int limit = sailing.boat.swell;
        if (sailing.from.swell > limit || sailing.to.swell > limit) {
            return BY_SWELL;
        }
        return NO_REASON;
    }

    private static boolean isNight(int minute) {
        int ofDay = minute % DAY;
        return ofDay < NIGHT_ENDS || ofDay >= NIGHT_BEGINS;
    }

    private int crewMinutes(Boat boat, int day) {
        int minutes = 0;
        for (int i = 0; i < sailings.size(); i++) {
            Sailing sailing = sailings.get(i);
            boolean isUnderWay = sailing.state == SAILS || sailing.state == ARRIVED;
            if (isUnderWay && sailing.boat == boat && sailing.departure / DAY == day) {
                minutes += sailing.duration;
            }
        }
        return minutes;
    }

    // ---- money

    private int fare(Booking booking) {
        if (booking.state != ABOARD && booking.state != LANDED) {
            return 0;
        }
        if (booking.kind < 0 || booking.kind >= rates.length) {
            return 0;
        }
        int whole = booking.length * rates[booking.kind];
        return Math.min(booking.kind == ISLANDER ? whole / 2 : whole, HIGHEST_FARE);
    }

    private static final class Pier {
        private static final int TIDE_ROUND = 720, HALF_ROUND = 360, QUARTER_ROUND = 180;

        final int number;
        final int depth;
        final int range;
        final int phase;
        final boolean isLit;
        int swell = 0;
        private int lastArrival = 0;
        private int cause = NO_REASON;
        private int longestEnded = 0;
        private int causeOfLongestEnded = NO_REASON;

        Pier(int number, int depth, int range, int phase, boolean isLit) {
            this.number = number;
            this.depth = depth;
            this.range = range;
            this.phase = phase;
            this.isLit = isLit;
        }

        int tideAt(int minute) {
            int away = Math.abs((minute + phase) % TIDE_ROUND - HALF_ROUND);
            return range * (away - QUARTER_ROUND) / QUARTER_ROUND;
        }

        int waterAt(int minute) {
            return depth + tideAt(minute);
        }

        int gapAt(int minute) {
            return minute - lastArrival;
        }

        int longestGapAt(int minute) {
            return Math.max(longestEnded, gapAt(minute));
        }

        int longestCauseAt(int minute) {
            return gapAt(minute) > longestEnded ? cause : causeOfLongestEnded;
        }

        void endGap(int minute) {
            int longestCause = longestCauseAt(minute);
            longestEnded = longestGapAt(minute);
            causeOfLongestEnded = longestCause;
            lastArrival = minute;
            cause = NO_REASON;
        }

        void tellCancelled(int reason) {
            if (cause == NO_REASON) {
                cause = reason;
            }
        }
    }

    private static final class Boat {
        final int number;
        final int draught;
        final int length;
        final int weight;
        final int trim;
        final int swell;
        final int piers;
        int pier = NONE;
        boolean isBroken = false;

        Boat(int number, int draught, int length, int weight, int trim, int swell, int piers) {
            this.number = number;
            this.draught = draught;
            this.length = length;
            this.weight = weight;
            this.trim = trim;
            this.swell = swell;
            this.piers = piers;
        }

        boolean fits(Pier pier) {
            return ((piers >> pier.number) & 1) == 1;
        }
    }

    private static final class Side {
        final int number;
        int weight = 0;
        int length = 0;

        Side(int number) {
            this.number = number;
        }
    }

    private static final class Sailing {
        final int number;
        Boat boat;
        final Pier from;
        final Pier to;
        final int departure;
        final int duration;
        final boolean isLifeline;
        final Side firstSide = new Side(0);
        final Side secondSide = new Side(1);
        final ArrayList<Booking> aboard = new ArrayList<>();
        final ArrayList<Booking> off = new ArrayList<>();
        private int lorries = 0;
        private int danger = 0;
        int state = PLANNED;
        int reason = NO_REASON;
        int refused = 0;

        Sailing(int number, Boat boat, Pier from, Pier to, int departure, int duration, boolean isLifeline) {
            this.number = number;
            this.boat = boat;
            this.from = from;
            this.to = to;
            this.departure = departure;
            this.duration = duration;
            this.isLifeline = isLifeline;
        }

        int arrival() {
            return departure + duration;
        }

        int refusal(Booking booking) {
            // Two dangers are never aboard together, so that one number tells what is aboard.
            if (booking.danger != 0 && danger != 0 && danger != booking.danger) {
                return BY_DANGER;
            }
            if (firstSide.weight + secondSide.weight + booking.weight > boat.weight) {
                return BY_WEIGHT;
            }
            if (!hasLength(firstSide, booking) && !hasLength(secondSide, booking)) {
                return BY_LENGTH;
            }
            if (!canTake(firstSide, booking) && !canTake(secondSide, booking)) {
                return BY_TRIM;
            }
            return NO_REASON;
        }

        void takeAboard(Booking booking) {
            Side lighter = secondSide.weight < firstSide.weight ? secondSide : firstSide;
            Side side = canTake(lighter, booking) ? lighter : opposite(lighter);
            side.weight += booking.weight;
            side.length += booking.length;
            if (booking.danger != 0) {
                danger = booking.danger;
            }
            booking.state = ABOARD;
            booking.side = side.number;
            aboard.add(booking);
            putFirstOff(booking);
        }

        void land() {
            for (int i = 0; i < off.size(); i++) {
                off.get(i).state = LANDED;
            }
        }

        private void putFirstOff(Booking booking) {
            if (booking.isLorry) {
                off.add(0, booking);
                lorries++;
            } else {
                off.add(Math.min(lorries, off.size()), booking);
            }
        }

        private Side opposite(Side side) {
            return side == firstSide ? secondSide : firstSide;
        }

        private boolean hasLength(Side side, Booking booking) {
            return side.length + booking.length <= boat.length;
        }

        private boolean canTake(Side side, Booking booking) {
            int difference = Math.abs(side.weight + booking.weight - opposite(side).weight);
            return hasLength(side, booking) && difference <= boat.trim;
        }
    }

    private static final class Booking {
        int number = NONE;
        Sailing sailing;
        final int kind;
        final int length;
        final int weight;
        final int danger;
        final boolean isUrgent;
        final boolean isLorry;
        int state = WAITS;
        int reason = NO_REASON;
        int points = 0;
        int side = NONE;

        Booking(Sailing sailing, int kind, int length, int weight, int danger, boolean isUrgent, boolean isLorry) {
            this.sailing = sailing;
            this.kind = kind;
            this.length = length;
            this.weight = weight;
            this.danger = danger;
            this.isUrgent = isUrgent;
            this.isLorry = isLorry;
        }

        boolean waitsFor(Sailing asked) {
            return state == WAITS && sailing == asked;
        }

        boolean isAheadOf(Booking other) {
            if (isUrgent != other.isUrgent) {
                return isUrgent;
            }
            if (kind != other.kind) {
                return kind < other.kind;
            }
            return points != other.points ? points > other.points : number < other.number;
        }
    }
}
