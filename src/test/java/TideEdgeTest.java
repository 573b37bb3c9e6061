/** The tide to the minute (promise 11). */
public final class TideEdgeTest {
    public static void main(String[] args) {
        everyMinuteOfATide();
        turningPoints();
        cutTowardsNothing();
        minuteAndPhaseTogether();
        noRange();
        farMinutes();
        tideIsNotOfNow();
        Check.end();
    }

    private static IsleBoats pier(int range, int phase) {
        IsleBoats x = new IsleBoats();
        x.pier(0, range, phase, true);
        return x;
    }

    private static void tides(IsleBoats x, int[][] asked) {
        for (int[] one : asked) {
            Check.due(one[1], () -> x.tide(0, one[0]));
        }
    }

    /** As the document has it, but with the sign set apart, so that cutting towards 0 is cutting of what is not negative. */
    private static int tide(int range, int phase, int minute) {
        int away = (minute + phase) % 720 - 360;
        int above = (away < 0 ? -away : away) - 180;
        return above < 0 ? -(range * -above / 180) : range * above / 180;
    }

    private static void everyMinuteOfATide() {
        for (int range : new int[] {0, 1, 7, 179, 180, 181, 200}) {
            for (int phase : new int[] {0, 1, 359, 360, 361, 719}) {
                IsleBoats x = pier(range, phase);
                for (int minute = 0; minute <= 1441; minute++) {
                    int asked = minute;
                    Check.due(tide(range, phase, asked), () -> x.tide(0, asked));
                }
            }
        }
    }

    private static void turningPoints() {
        tides(pier(180, 0), new int[][] {{0, 180}, {1, 179}, {179, 1}, {180, 0}, {181, -1}, {359, -179}, {360, -180},
            {361, -179}, {539, -1}, {540, 0}, {541, 1}, {719, 179}, {720, 180}, {721, 179}, {1080, -180}, {1440, 180}});
    }

    private static void cutTowardsNothing() {
        // 1 times 179 by 180 is nothing, above and below.
        tides(pier(1, 0), new int[][] {{0, 1}, {1, 0}, {180, 0}, {359, 0}, {360, -1}, {361, 0}, {719, 0}, {720, 1}});
        // 100 times 9 by 180 is 5; times 8 it is 4 and a part.
        tides(pier(100, 0), new int[][] {{171, 5}, {172, 4}, {178, 1}, {179, 0}, {181, 0}, {182, -1}, {188, -4}, {189, -5}});
    }

    private static void minuteAndPhaseTogether() {
        tides(pier(180, 719), new int[][] {{0, 179}, {1, 180}, {2, 179}, {361, -180}, {721, 180}});
        tides(pier(180, 360), new int[][] {{0, -180}, {359, 179}, {360, 180}, {361, 179}, {720, -180}});
        tides(pier(180, 1), new int[][] {{0, 179}, {718, 179}, {719, 180}, {720, 179}});
    }

    private static void noRange() {
        tides(pier(0, 100), new int[][] {{0, 0}, {260, 0}, {620, 0}, {1000000, 0}});
    }

    private static void farMinutes() {
        // 1000000 is 640 beyond 1388 tides.
        tides(pier(180, 0), new int[][] {{999360, 180}, {999720, -180}, {1000000, 100}});
        tides(pier(180, 80), new int[][] {{999999, 179}, {1000000, 180}});
        tides(pier(200, 719), new int[][] {{1000000, 110}});
    }

    private static void tideIsNotOfNow() {
        IsleBoats x = pier(180, 0);
        for (int i = 0; i < 10; i++) {
            x.pass(77);
            tides(x, new int[][] {{0, 180}, {360, -180}, {770, 130}});
        }
    }
}
