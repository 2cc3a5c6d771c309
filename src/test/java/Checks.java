/** What the tests share: calls whose answers are compared, and calls that have to throw. */
final class Checks {
    interface Call {
        long answer();
    }

    static final String BOUNDS = "IndexOutOfBoundsException";
    static final String ARGUMENT = "IllegalArgumentException";
    static final String STATE = "IllegalStateException";

    private static int wrong = 0;

    private Checks() {
    }

    static void equal(String what, long got, long due) {
        if (got != due) {
            wrong++;
            System.out.println(what + ": got " + got + ", due is " + due);
        }
    }

    static void isTrue(String what, boolean got) {
        equal(what, got ? 1 : 0, 1);
    }

    static void isFalse(String what, boolean got) {
        equal(what, got ? 1 : 0, 0);
    }

    /** The call throws just this exception, and leaves the radar as it was. */
    static void refuses(CoastRadar radar, String what, String exception, Call call) {
        long before = radar.digest();
        String got = thrown(call);
        if (!got.equals(exception)) {
            wrong++;
            System.out.println(what + ": threw " + got + ", due is " + exception);
        }
        equal(what + ": digest behind the refused call", radar.digest(), before);
    }

    static String thrown(Call call) {
        try {
            call.answer();
            return "nothing";
        } catch (RuntimeException e) {
            return e.getClass().getSimpleName();
        }
    }

    static void end(String test) {
        System.out.println(test + ": " + (wrong == 0 ? "all answers are as due" : wrong + " answers are not as due"));
        if (wrong != 0) {
            System.exit(1);
        }
    }
}
