/** Counts answers that are not the ones that are due, and tells the line of the test that asked. */
final class Check {
    interface Call {
        double answer();
    }

    interface Asked {
        boolean answer();
    }

    private static final int TOLD = 20;
    private static int checked = 0;
    private static int wrong = 0;

    private Check() {
    }

    static void due(double want, Call call) {
        String got = outcome(call);
        compare(String.valueOf(want), got, "");
    }

    static void yes(boolean want, Asked call) {
        compare(want ? "1.0" : "0.0", outcome(() -> call.answer() ? 1 : 0), "");
    }

    static void fails(Class<? extends RuntimeException> want, Call call) {
        compare(want.getName(), outcome(call), "");
    }

    static void same(String call, Call want, Call got) {
        compare(outcome(want), outcome(got), call + " ");
    }

    static void end() {
        System.out.println(checked + " answers, " + wrong + " of them wrong");
        if (wrong > 0) {
            System.exit(1);
        }
    }

    static int wrong() {
        return wrong;
    }

    private static String outcome(Call call) {
        try {
            return String.valueOf(call.answer());
        } catch (RuntimeException thrown) {
            return told(thrown);
        }
    }

    // The very class and place count: what the machine or its library throws by itself is never due.
    private static String told(RuntimeException thrown) {
        StackTraceElement[] trace = thrown.getStackTrace();
        String place = trace.length == 0 ? "" : trace[0].getClassName();
        boolean isThrownByHand = place.equals("IsleBoats") || place.equals("Model");
        return thrown.getClass().getName() + (isThrownByHand ? "" : " of the machine");
    }

    private static void compare(String want, String got, String call) {
        checked++;
        if (want.equals(got)) {
            return;
        }
        wrong++;
        if (wrong <= TOLD) {
            StackTraceElement line = new Throwable().getStackTrace()[2];
            System.out.println(line.getFileName() + ":" + line.getLineNumber() + ": " + call
                    + "answered " + got + ", due is " + want);
        }
    }
}
