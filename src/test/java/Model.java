import java.util.ArrayList;
import java.util.Comparator;
import java.util.List;

/** The document once more, in another way: every minute is lived, and answers are found from what was written down. */
final class Model {
    static final class Ship {
        int draught, length, weight, trim, swell, piers, at;
        boolean isBroken;
    }

    static final class Trip {
        int number, ship, from, to, leaves, takes, state, reason, refused;
        boolean isLifeline;
    }

    static final class Load {
        int number, trip, kind, length, weight, danger, state, reason, points, side = -1, turn = -1;
        boolean isUrgent, isLorry;
    }

    /** What happened to a pier: an arrival, with reason 0, or a cancelling, with its reason. */
    record Note(int minute, int pier, int reason) {
    }

    record Quay(int depth, int range, int phase, boolean isLit) {
    }

    private final List<Quay> quays = new ArrayList<>();
    private final int[] swells = new int[8];
    private final List<Ship> ships = new ArrayList<>();
    private final List<Trip> trips = new ArrayList<>();
    private final List<Load> loads = new ArrayList<>();
    private final List<Note> notes = new ArrayList<>();
    private final int[] rates = {100, 100, 100};
    private int now = 0;
    private int turns = 0;

    private static void index(boolean isThere) {
        if (!isThere) {
            throw new IndexOutOfBoundsException();
        }
    }

    private static void argument(boolean isFine) {
        if (!isFine) {
            throw new IllegalArgumentException();
        }
    }

    private static void state(boolean isPossible) {
        if (!isPossible) {
            throw new IllegalStateException();
        }
    }

    private static boolean in(int least, int value, int most) {
        return least <= value && value <= most;
    }

    private static boolean has(List<?> list, int number) {
        return in(0, number, list.size() - 1);
    }

    int pier(int depth, int range, int phase, boolean isLit) {
        argument(in(0, depth, 500) && in(0, range, 200) && in(0, phase, 719));
        state(quays.size() < 8);
        quays.add(new Quay(depth, range, phase, isLit));
        return quays.size() - 1;
    }

    int boat(int draught, int length, int weight, int trim, int swell, int piers, int home) {
        index(has(quays, home));
        argument(in(1, draught, 500) && in(1, length, 200) && in(1, weight, 10000));
        argument(in(0, trim, 10000) && in(0, swell, 9) && in(0, piers, 255));
        state(ships.size() < 6);
        Ship ship = new Ship();
        ship.draught = draught;
        ship.length = length;
        ship.weight = weight;
        ship.trim = trim;
        ship.swell = swell;
        ship.piers = piers;
        ship.at = home;
        ships.add(ship);
        return ships.size() - 1;
    }

    int swell(int pier, int swell) {
        index(has(quays, pier));
        argument(in(0, swell, 9));
        int before = swells[pier];
        swells[pier] = swell;
        return before;
    }

    boolean breakDown(int boat) {
        index(has(ships, boat));
        return ships.get(boat).isBroken ^= true;
    }

    int relieve(int boat, int other) {
        index(has(ships, boat) && has(ships, other));
        argument(boat != other);
        List<Trip> taken = trips.stream().filter(t -> t.state == 0 && t.ship == boat).toList();
        taken.forEach(t -> t.ship = other);
        return taken.size();
    }

    int sailing(int boat, int from, int to, int ahead, int duration, boolean isLifeline) {
        index(has(ships, boat) && has(quays, from) && has(quays, to));
        argument(from != to && in(1, ahead, 20000) && in(1, duration, 700));
        state(trips.size() < 60);
        Trip trip = new Trip();
        trip.number = trips.size();
        trip.ship = boat;
        trip.from = from;
        trip.to = to;
        trip.leaves = now + ahead;
        trip.takes = duration;
        trip.isLifeline = isLifeline;
        trips.add(trip);
        return trip.number;
    }

    int book(int sailing, int kind, int length, int weight, int danger, boolean isUrgent, boolean isLorry) {
        index(has(trips, sailing) && in(0, kind, 2));
        argument(in(1, length, 30) && in(1, weight, 1000) && in(0, danger, 3));
        state(trips.get(sailing).state == 0 && loads.size() < 100);
        Load load = new Load();
        load.number = loads.size();
        load.trip = sailing;
        load.kind = kind;
        load.length = length;
        load.weight = weight;
        load.danger = danger;
        load.isUrgent = isUrgent;
        load.isLorry = isLorry;
        loads.add(load);
        return load.number;
    }

    int rate(int kind, int cents) {
        index(in(0, kind, 2));
        argument(in(0, cents, 10000));
        int before = rates[kind];
        rates[kind] = cents;
        return before;
    }

    int pass(int minutes) {
        argument(in(1, minutes, 1500));
        for (int i = 0; i < minutes; i++) {
            now++;
            for (Trip trip : trips) {
                if (trip.state == 1 && trip.leaves + trip.takes == now) {
                    arrive(trip);
                }
            }
            for (Trip trip : trips) {
                if (now % 1440 == 300 && trip.state == 0 && trip.leaves / 1440 == now / 1440) {
                    look(trip, List.of(4, 5));
                }
            }
            for (Trip trip : trips) {
                if (trip.state == 0 && trip.leaves == now) {
                    look(trip, List.of(1, 2, 3, 4, 5));
                    if (trip.state == 0) {
                        sail(trip);
                    }
                }
            }
        }
        return now;
    }

    private void arrive(Trip trip) {
        trip.state = 2;
        ships.get(trip.ship).at = trip.to;
        notes.add(new Note(now, trip.to, 0));
        loads.stream().filter(l -> l.trip == trip.number && l.state == 1).forEach(l -> l.state = 2);
    }

    private void look(Trip trip, List<Integer> reasons) {
        int first = ships.get(trip.ship).isBroken ? 1 : 0;
        for (int reason : reasons) {
            first = first == 0 && isAgainst(trip, reason, trip.leaves) ? reason : first;
        }
        if (first != 0) {
            trip.state = 3;
            trip.reason = first;
            notes.add(new Note(now, trip.to, first));
            for (Load load : waiting(trip)) {
                refuse(load, 5);
            }
        }
    }

    private boolean isAgainst(Trip trip, int reason, int leaves) {
        Ship ship = ships.get(trip.ship);
        Quay first = quays.get(trip.from);
        Quay last = quays.get(trip.to);
        int arrives = leaves + trip.takes;
        int both = 1 << trip.from | 1 << trip.to;
        return switch (reason) {
            case 1 -> ship.isBroken || ship.at != trip.from || (ship.piers & both) != both;
            case 2 -> crew(trip.ship, leaves / 1440) + trip.takes > 720;
            case 3 -> first.depth() + tideOf(first, leaves) < ship.draught
                    || last.depth() + tideOf(last, arrives) < ship.draught;
            case 4 -> !last.isLit() && !in(360, arrives % 1440, 1319);
            default -> Math.max(swells[trip.from], swells[trip.to]) > ship.swell;
        };
    }

    private int crew(int ship, int day) {
        return trips.stream().filter(t -> t.ship == ship && (t.state == 1 || t.state == 2))
                .filter(t -> t.leaves / 1440 == day).mapToInt(t -> t.takes).sum();
    }

    private static int tideOf(Quay quay, int minute) {
        int away = Math.abs((minute + quay.phase()) % 720 - 360);
        return quay.range() * (away - 180) / 180;
    }

    private List<Load> waiting(Trip trip) {
        return loads.stream().filter(l -> l.trip == trip.number && l.state == 0)
                .sorted(Comparator.<Load>comparingInt(l -> l.isUrgent ? 0 : 1).thenComparingInt(l -> l.kind)
                        .thenComparingInt(l -> -l.points).thenComparingInt(l -> l.number))
                .toList();
    }

    private List<Load> aboard(Trip trip) {
        return loads.stream().filter(l -> l.trip == trip.number && l.turn >= 0)
                .sorted(Comparator.comparingInt(l -> l.turn)).toList();
    }

    private int weight(Trip trip, int side) {
        return aboard(trip).stream().filter(l -> l.side == side).mapToInt(l -> l.weight).sum();
    }

    private int length(Trip trip, int side) {
        return aboard(trip).stream().filter(l -> l.side == side).mapToInt(l -> l.length).sum();
    }

    private void sail(Trip trip) {
        trip.state = 1;
        ships.get(trip.ship).at = -1;
        for (Load load : waiting(trip)) {
            load(trip, load);
        }
    }

    private void load(Trip trip, Load load) {
        Ship ship = ships.get(trip.ship);
        int[] weights = {weight(trip, 0), weight(trip, 1)};
        boolean hasOther = aboard(trip).stream().anyMatch(l -> l.danger != 0 && l.danger != load.danger);
        List<Integer> long0 = new ArrayList<>(weights[1] < weights[0] ? List.of(1, 0) : List.of(0, 1));
        long0.removeIf(side -> length(trip, side) + load.length > ship.length);
        List<Integer> trimmed = long0.stream()
                .filter(side -> Math.abs(weights[side] + load.weight - weights[1 - side]) <= ship.trim).toList();
        int reason = load.danger != 0 && hasOther ? 1
                : weights[0] + weights[1] + load.weight > ship.weight ? 2
                : long0.isEmpty() ? 3 : trimmed.isEmpty() ? 4 : 0;
        if (reason != 0) {
            trip.refused++;
            refuse(load, reason);
            return;
        }
        load.state = 1;
        load.side = trimmed.get(0);
        load.turn = turns++;
    }

    private void refuse(Load load, int reason) {
        Trip missed = trips.get(load.trip);
        load.reason = reason;
        load.points++;
        trips.stream().filter(t -> t.state == 0 && t.leaves >= now && t.from == missed.from && t.to == missed.to)
                .min(Comparator.<Trip>comparingInt(t -> t.leaves).thenComparingInt(t -> t.number))
                .ifPresentOrElse(t -> load.trip = t.number, () -> load.state = 3);
    }

    int tide(int pier, int minute) {
        index(has(quays, pier));
        argument(in(0, minute, 1000000));
        return tideOf(quays.get(pier), minute);
    }

    int boatOf(int boat, int what) {
        index(has(ships, boat));
        argument(in(0, what, 2));
        Ship ship = ships.get(boat);
        return what == 0 ? ship.at : what == 1 ? (ship.isBroken ? 1 : 0) : crew(boat, now / 1440);
    }

    int sailingOf(int sailing, int what) {
        index(has(trips, sailing));
        argument(in(0, what, 6));
        Trip trip = trips.get(sailing);
        return new int[] {trip.state, trip.reason, trip.ship, aboard(trip).size(), weight(trip, 0), weight(trip, 1),
            trip.refused}[what];
    }

    int against(int sailing) {
        index(has(trips, sailing));
        Trip trip = trips.get(sailing);
        state(trip.state == 0);
        for (int reason = 1; reason <= 5; reason++) {
            if (isAgainst(trip, reason, now)) {
                return reason;
            }
        }
        return 0;
    }

    int bookingOf(int booking, int what) {
        index(has(loads, booking));
        argument(in(0, what, 5));
        Load load = loads.get(booking);
        int fare = load.length * rates[load.kind] / (load.kind == 0 ? 2 : 1);
        int owed = load.state == 1 || load.state == 2 ? Math.min(5000, fare) : 0;
        return new int[] {load.state, load.trip, load.reason, load.points, load.side, owed}[what];
    }

    int plan(int sailing, int place, boolean isOff) {
        index(has(trips, sailing) && place >= 0);
        List<Load> order = new ArrayList<>(aboard(trips.get(sailing)));
        if (isOff) {
            order.sort(Comparator.<Load>comparingInt(l -> l.isLorry ? 0 : 1).thenComparingInt(l -> -l.turn));
        }
        return place < order.size() ? order.get(place).number : -1;
    }

    int gap(int pier, int what) {
        index(has(quays, pier));
        argument(in(0, what, 2));
        int begin = 0;
        int cause = 0;
        int longest = -1;
        int causeOfLongest = 0;
        List<Note> told = new ArrayList<>(notes);
        told.add(new Note(now, pier, 0));
        for (Note note : told) {
            if (note.pier() != pier) {
                continue;
            }
            if (note.reason() != 0) {
                cause = cause == 0 ? note.reason() : cause;
                continue;
            }
            if (note.minute() - begin > longest) {
                longest = note.minute() - begin;
                causeOfLongest = cause;
            }
            if (what == 0 && note == told.get(told.size() - 1)) {
                return now - begin;
            }
            begin = note.minute();
            cause = 0;
        }
        return what == 1 ? longest : causeOfLongest;
    }

    double performance() {
        long all = trips.stream().filter(t -> t.isLifeline && t.state != 0).count();
        long cancelled = trips.stream().filter(t -> t.isLifeline && t.state == 3).count();
        return all == 0 ? 1 : (double) (all - cancelled) / (double) all;
    }

    int penalty() {
        return (int) Math.floor(1000 * (1 - performance()));
    }
}
