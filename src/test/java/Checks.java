/** What the tests share: calls whose answers are compared, and calls that have to throw. */
final class Checks {
    interface Call {
        long answer();
    }

    static final String BOUNDS = "IndexOutOfBoundsException";
    static final String ARGUMENT = "IllegalArgumentException";
    static final String STATE = "IllegalStateException";

    private static int wrong = 0;

    private Checks() {
    }

    static void equal(String what, long got, long due) {
        if (got != due) {
            wrong++;
            System.out.println(what + ": got " + got + ", due is " + due);
        }
    }

    static void isTrue(String what, boolean got) {
        equal(what, got ? 1 : 0, 1);
    }

    static void isFalse(String what, boolean got) {
        equal(what, got ? 1 : 0, 0);
    }

    static void text(String what, String got, String due) {
        if (!got.equals(due)) {
            wrong++;
            System.out.println(what + ": got " + got + ", due is " + due);
        }
    }

    /** All events that are kept, each as its sweep, kind, name and other number. */
    static String events(CoastRadar radar) {
        StringBuilder all = new StringBuilder();
        for (int i = 0; i < Math.min(radar.count(9), 120); i++) {
            all.append(i == 0 ? "" : " ");
            for (int what = 0; what <= 3; what++) {
                all.append(what == 0 ? "" : ":").append(radar.event(i, what));
            }
        }
        return all.toString();
    }

    /** The events of one sweep that are kept, each as its kind, name and other number. */
    static String eventsOf(CoastRadar radar, int sweep) {
        StringBuilder all = new StringBuilder();
        for (int i = 0; i < Math.min(radar.count(9), 120); i++) {
            if (radar.event(i, 0) == sweep) {
                all.append(all.length() == 0 ? "" : " ");
                all.append(radar.event(i, 1)).append(":").append(radar.event(i, 2)).append(":").append(radar.event(i, 3));
            }
        }
        return all.toString();
    }

    /** A radar with some stations that see far, tuned as a new one is. */
    static CoastRadar stations(int number) {
        CoastRadar radar = new CoastRadar();
        for (int i = 0; i < number; i++) {
            equal("station", radar.addStation(0, 0, 20000), i);
        }
        return radar;
    }

    /** Some sweeps without blips. */
    static void empty(CoastRadar radar, int sweeps, int dt) {
        for (int i = 0; i < sweeps; i++) {
            radar.sweep(dt);
        }
    }

    /** A radar with one station that sees far, tuned so that a track goes where its blip is. */
    static CoastRadar radar(int gate, int b) {
        CoastRadar radar = new CoastRadar();
        radar.addStation(0, 0, 20000);
        radar.tune(0, gate, 16, b);
        return radar;
    }

    /**
     * A radar with new tracks, joined twice: each one is told as x, y of its place, and its speed in 256ths, for x and y.
     * The gate is 2000; a track goes where its blip is.
     */
    static CoastRadar moving(int... rows) {
        CoastRadar radar = radar(2000, 1);
        int[] before = places(rows);
        for (int i = 0; i < before.length; i++) {
            before[i] -= rows[i / 2 * 4 + 2 + i % 2];
        }
        sweep(radar, 1, before);
        sweep(radar, 16, places(rows));
        areSetUp(radar, rows);
        return radar;
    }

    /** The same tracks, firm; from now on they keep their speeds. */
    static CoastRadar firm(int... rows) {
        CoastRadar radar = moving(rows);
        radar.tune(0, 2000, 16, 0);
        sweep(radar, 1, places(rows));
        areSetUp(radar, rows);
        return radar;
    }

    private static int[] places(int... rows) {
        int[] places = new int[rows.length / 2];
        for (int i = 0; i < places.length; i++) {
            places[i] = rows[i / 2 * 4 + i % 2];
        }
        return places;
    }

    private static void areSetUp(CoastRadar radar, int... rows) {
        for (int i = 0; i < rows.length; i++) {
            equal("set up, track " + i / 4 + ", " + i % 4, radar.track(i / 4, i % 4), i % 4 < 2 ? 16 * rows[i] : rows[i]);
        }
    }

    /** Reports blips at places x, y, x, y .. and does a sweep of some ticks. */
    static int sweep(CoastRadar radar, int dt, int... places) {
        for (int i = 0; i + 1 < places.length; i += 2) {
            equal("report(0, " + places[i] + ", " + places[i + 1] + ", 99)", radar.report(0, places[i], places[i + 1], 99), 0);
        }
        return radar.sweep(dt);
    }

    /** The names of all tracks, in their order. */
    static String names(CoastRadar radar) {
        StringBuilder all = new StringBuilder();
        for (int i = 0; i < radar.count(4); i++) {
            all.append(i == 0 ? "" : " ").append(radar.name(i));
        }
        return all.toString();
    }

    /** The names of the tracks of all blips, in their order. */
    static String joins(CoastRadar radar, int blips) {
        StringBuilder all = new StringBuilder();
        for (int i = 0; i < blips; i++) {
            all.append(i == 0 ? "" : " ").append(radar.blip(i, 4));
        }
        return all.toString();
    }

    /** The call throws just this exception, and leaves the radar as it was. */
    static void refuses(CoastRadar radar, String what, String exception, Call call) {
        long before = radar.digest();
        String got = thrown(call);
        if (!got.equals(exception)) {
            wrong++;
            System.out.println(what + ": threw " + got + ", due is " + exception);
        }
        equal(what + ": digest behind the refused call", radar.digest(), before);
    }

    static String thrown(Call call) {
        try {
            call.answer();
            return "nothing";
        } catch (RuntimeException e) {
            return e.getClass().getSimpleName();
        }
    }

    static void end(String test) {
        System.out.println(test + ": " + (wrong == 0 ? "all answers are as due" : wrong + " answers are not as due"));
        if (wrong != 0) {
            System.exit(1);
        }
    }
}
