/** Counts and prints the answers that are not the ones that are due. */
final class Check {
    interface Call {
        void run();
    }

    interface IntCall {
        int run();
    }

    private static String heading = "";
    private static int wrong = 0;
    private static int all = 0;

    private Check() {
    }

    /** What all answers from here on are about. */
    static void begin(String what) {
        heading = what + "\n    ";
    }

    static int lookedAt() {
        return all;
    }

    static void same(String what, long got, long due) {
        same(what, String.valueOf(got), String.valueOf(due));
    }

    static void same(String what, String got, String due) {
        all++;
        if (!got.equals(due)) {
            wrong++;
            System.out.println(heading + what + ": answered " + got + ", due is " + due);
        }
    }

    static void holds(String what, boolean got) {
        same(what, String.valueOf(got), "true");
    }

    static String outcome(IntCall call) {
        try {
            return String.valueOf(call.run());
        } catch (RuntimeException e) {
            return e.getClass().getSimpleName();
        }
    }

    static String outcomeOf(Call call) {
        return outcome(() -> {
            call.run();
            return 0;
        });
    }

    static void end() {
        System.out.println(all + " answers looked at, " + wrong + " wrong");
        if (wrong != 0 || all == 0) {
            System.exit(1);
        }
    }
}
