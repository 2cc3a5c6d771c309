/** What the tests share: calls whose answers are compared, and calls that have to throw. */
final class Checks {
    interface Call {
        long answer();
    }

    static final String BOUNDS = "IndexOutOfBoundsException";
    static final String ARGUMENT = "IllegalArgumentException";
    static final String STATE = "IllegalStateException";

    private static int wrong = 0;

    private Checks() {
    }

    static void equal(String what, long got, long due) {
        if (got != due) {
            wrong++;
            System.out.println(what + ": got " + got + ", due is " + due);
        }
    }

    static void isTrue(String what, boolean got) {
        equal(what, got ? 1 : 0, 1);
    }

    static void isFalse(String what, boolean got) {
        equal(what, got ? 1 : 0, 0);
    }

    static void text(String what, String got, String due) {
        if (!got.equals(due)) {
            wrong++;
            System.out.println(what + ": got " + got + ", due is " + due);
        }
    }

    /** All events that are kept, each as its sweep, kind, name and other number. */
    static String events(CoastRadar radar) {
        StringBuilder all = new StringBuilder();
        for (int i = 0; i < Math.min(radar.count(9), 120); i++) {
            all.append(i == 0 ? "" : " ");
            for (int what = 0; what <= 3; what++) {
                all.append(what == 0 ? "" : ":").append(radar.event(i, what));
            }
        }
        return all.toString();
    }

    /** A radar with one station that sees far, tuned so that a track goes where its blip is. */
    static CoastRadar radar(int gate, int b) {
        CoastRadar radar = new CoastRadar();
        radar.addStation(0, 0, 20000);
        radar.tune(0, gate, 16, b);
        return radar;
    }

    /** Reports blips at places x, y, x, y .. and does a sweep of some ticks. */
    static int sweep(CoastRadar radar, int dt, int... places) {
        for (int i = 0; i + 1 < places.length; i += 2) {
            equal("report(0, " + places[i] + ", " + places[i + 1] + ", 99)", radar.report(0, places[i], places[i + 1], 99), 0);
        }
        return radar.sweep(dt);
    }

    /** The names of all tracks, in their order. */
    static String names(CoastRadar radar) {
        StringBuilder all = new StringBuilder();
        for (int i = 0; i < radar.count(4); i++) {
            all.append(i == 0 ? "" : " ").append(radar.name(i));
        }
        return all.toString();
    }

    /** The names of the tracks of all blips, in their order. */
    static String joins(CoastRadar radar, int blips) {
        StringBuilder all = new StringBuilder();
        for (int i = 0; i < blips; i++) {
            all.append(i == 0 ? "" : " ").append(radar.blip(i, 4));
        }
        return all.toString();
    }

    /** The call throws just this exception, and leaves the radar as it was. */
    static void refuses(CoastRadar radar, String what, String exception, Call call) {
        long before = radar.digest();
        String got = thrown(call);
        if (!got.equals(exception)) {
            wrong++;
            System.out.println(what + ": threw " + got + ", due is " + exception);
        }
        equal(what + ": digest behind the refused call", radar.digest(), before);
    }

    static String thrown(Call call) {
        try {
            call.answer();
            return "nothing";
        } catch (RuntimeException e) {
            return e.getClass().getSimpleName();
        }
    }

    static void end(String test) {
        System.out.println(test + ": " + (wrong == 0 ? "all answers are as due" : wrong + " answers are not as due"));
        if (wrong != 0) {
            System.exit(1);
        }
    }
}
