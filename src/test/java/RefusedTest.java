import java.util.ArrayList;
import java.util.List;

/**
 * "A method that throws an exception changes nothing. If several exceptions apply, the one that is named first is thrown."
 *
 * Two objects are called alike, but for one kind of refused call, which the one is asked ahead of each call of the other.
 * All that both answer has to be the same.
 */
final class RefusedTest {
    interface Step {
        long answer(CoastRadar r);
    }

    private static final int MIN = Integer.MIN_VALUE;
    private static final int MAX = Integer.MAX_VALUE;
    /** An object is used for at most so many calls. */
    private static final int CALLS = 512;

    private final List<Step> steps = new ArrayList<>();
    private int full;
    private int marked;
    private List<Long> due;
    private int tried;

    public static void main(String[] args) {
        RefusedTest test = new RefusedTest();
        test.coast();
        test.voyage();
        test.due = test.run(null, null, null, 0, 0);
        test.theRunHasAll();
        test.whatIsRefusedAlways();
        test.whatIsRefusedWhenFull();
        test.whatIsRefusedAheadOfAMark();
        test.firstOfSeveral();
        behind500Sweeps();
        firstOfSeveralBehind500Sweeps();
        System.out.println("kinds of refused calls: " + test.tried);
        Checks.isTrue("enough kinds of refused calls", test.tried >= 100);
        Checks.end("RefusedTest");
    }

    private void coast() {
        for (int i = 0; i < 4; i++) {
            int number = i;
            steps.add(r -> r.addStation(100 * number, 0, 9000 + number));
        }
        for (int i = 0; i < 10; i++) {
            int number = i;
            steps.add(r -> r.addPlace(false, 300 * number, 3000, 300 * number + 100, 3100));
        }
        for (int i = 0; i < 6; i++) {
            int number = i;
            steps.add(r -> r.addPlace(true, 40 * number, -50, 40 * number + 200, 50));
        }
        full = steps.size();
        steps.add(r -> r.tune(50, 30, 12, 3));
    }

    /** Two ships; the first one is lost, and comes back. */
    private void voyage() {
        for (int i = 0; i < 14; i++) {
            int x = 12 * i;
            if (i < 4 || i > 8) {
                steps.add(r -> r.report(0, x, 10, 90));
                steps.add(r -> r.report(1, x + (x % 24 == 0 ? 40 : 51), 11, 95));
            }
            steps.add(r -> r.report(2, 250 - x, -20 + x / 4, 80));
            steps.add(r -> r.sweep(3));
            if (i == 3) {
                marked = steps.size();
                steps.add(r -> r.mark());
            }
            if (i == 6 || i == 11) {
                queries();
            }
        }
        steps.add(r -> r.restore());
        queries();
        steps.add(r -> r.report(3, 48, 10, 70));
        steps.add(r -> r.sweep(3));
        steps.add(r -> r.tune(1, 2, 3, 4));
    }

    private void queries() {
        steps.add(r -> r.sees(1, 1000, 3050) ? 1 : 0);
        steps.add(r -> r.sees(3, 9402, 0) ? 1 : 0);
        steps.add(r -> r.level(5, 5));
        steps.add(r -> r.path(r.name(0), 1, true));
        steps.add(r -> (long) (65536 * r.speed(r.name(0))));
        steps.add(r -> r.nearest(r.name(0), r.name(r.count(4) - 1)));
        steps.add(r -> r.dangers(60));
    }

    /** What all steps answer, and a digest behind each one; ahead of the steps from .. to - 1 a call is refused. */
    private List<Long> run(String what, String exception, Step refused, int from, int to) {
        CoastRadar r = new CoastRadar();
        List<Long> told = new ArrayList<>();
        for (int i = 0; i < steps.size(); i++) {
            if (i >= from && i < to) {
                Checks.text(what + " ahead of step " + i, Checks.thrown(() -> refused.answer(r)), exception);
            }
            told.add(steps.get(i).answer(r));
            told.add(r.digest());
        }
        return told;
    }

    private void refused(String what, String exception, Step call, int from, int to) {
        tried++;
        List<Long> told = run(what, exception, call, from, to);
        for (int i = 0; i < told.size(); i++) {
            if (!told.get(i).equals(due.get(i))) {
                Checks.isTrue(what + " changes what step " + i / 2 + " answers, or the digest behind it", false);
                return;
            }
        }
    }

    private void always(String what, String exception, Step call) {
        refused(what, exception, call, 0, steps.size());
    }

    private void whenFull(String what, String exception, Step call) {
        refused(what, exception, call, full, steps.size());
    }

    /** The run would tell little if nothing happened in it. */
    private void theRunHasAll() {
        CoastRadar r = new CoastRadar();
        int kinds = 0;
        int calls = 0;
        for (Step step : steps) {
            step.answer(r);
            for (int i = Math.min(120, r.count(9)) - 1; i >= 0 && calls < 200; i -= 7) {
                kinds |= 1 << r.event(i, 1);
                calls++;
            }
        }
        Checks.isTrue("the run has events of most kinds: " + Integer.toBinaryString(kinds), Integer.bitCount(kinds) >= 6);
        // A step calls three methods at the most, its digest is one, and the refused call two.
        Checks.isTrue("the run is short enough", 4 * steps.size() + 40 <= CALLS);
    }

    private void whatIsRefusedAlways() {
        for (int w : new int[] {-10000, 10000, MIN, MAX}) {
            always("addStation(" + w + ", 0, 5)", Checks.ARGUMENT, r -> r.addStation(w, 0, 5));
            always("addStation(0, " + w + ", 5)", Checks.ARGUMENT, r -> r.addStation(0, w, 5));
            always("addPlace(false, " + w + ", ..)", Checks.ARGUMENT, r -> r.addPlace(false, w, 0, 5, 5));
            always("addPlace(false, 0, " + w + ", ..)", Checks.ARGUMENT, r -> r.addPlace(false, 0, w, 5, 5));
            always("addPlace(true, 0, 0, " + w + ", 5)", Checks.ARGUMENT, r -> r.addPlace(true, 0, 0, w, 5));
            always("addPlace(true, 0, 0, 5, " + w + ")", Checks.ARGUMENT, r -> r.addPlace(true, 0, 0, 5, w));
            always("level(" + w + ", 5)", Checks.ARGUMENT, r -> r.level(w, 5));
            always("level(5, " + w + ")", Checks.ARGUMENT, r -> r.level(5, w));
        }
        for (int w : new int[] {0, 20001, -1}) {
            always("addStation(0, 0, " + w + ")", Checks.ARGUMENT, r -> r.addStation(0, 0, w));
        }
        for (int w : new int[] {5, 4}) {
            always("addPlace(false, 5, 0, " + w + ", 5)", Checks.ARGUMENT, r -> r.addPlace(false, 5, 0, w, 5));
            always("addPlace(true, 0, 5, 5, " + w + ")", Checks.ARGUMENT, r -> r.addPlace(true, 0, 5, 5, w));
        }
        tuneAndSweepAlways();
        indexesAlways();
    }

    private void tuneAndSweepAlways() {
        for (int w : new int[] {-1, 501}) {
            always("tune(" + w + ", 999, 1, 1)", Checks.ARGUMENT, r -> r.tune(w, 999, 1, 1));
        }
        for (int w : new int[] {0, 2001}) {
            always("tune(499, " + w + ", 1, 1)", Checks.ARGUMENT, r -> r.tune(499, w, 1, 1));
        }
        for (int w : new int[] {-1, 17}) {
            always("tune(499, 999, " + w + ", 1)", Checks.ARGUMENT, r -> r.tune(499, 999, w, 1));
            always("tune(499, 999, 1, " + w + ")", Checks.ARGUMENT, r -> r.tune(499, 999, 1, w));
        }
        for (int w : new int[] {0, 61, -1, MIN, MAX}) {
            always("sweep(" + w + ")", Checks.ARGUMENT, r -> r.sweep(w));
        }
        for (int w : new int[] {-1, 5001, MIN, MAX}) {
            always("dangers(" + w + ")", Checks.ARGUMENT, r -> r.dangers(w));
        }
    }

    private void indexesAlways() {
        for (int w : new int[] {-1, MIN, MAX}) {
            always("sees(" + w + ", 0, 0)", Checks.BOUNDS, r -> r.sees(w, 0, 0) ? 1 : 0);
            always("report(" + w + ", 5, 5, 99)", Checks.BOUNDS, r -> r.report(w, 5, 5, 99));
            always("blip(" + w + ", 0)", Checks.BOUNDS, r -> r.blip(w, 0));
            always("name(" + w + ")", Checks.BOUNDS, r -> r.name(w));
            always("track(" + w + ", 0)", Checks.BOUNDS, r -> r.track(w, 0));
            always("path(" + w + ", 0, true)", Checks.BOUNDS, r -> r.path(w, 0, true));
            always("speed(" + w + ")", Checks.BOUNDS, r -> (long) r.speed(w));
            always("nearest(" + w + ", " + w + ")", Checks.BOUNDS, r -> r.nearest(w, w));
            always("inside(" + w + ")", Checks.BOUNDS, r -> r.inside(w));
            always("event(" + w + ", 0)", Checks.BOUNDS, r -> r.event(w, 0));
        }
        for (int w : new int[] {-1, 11}) {
            always("count(" + w + ")", Checks.BOUNDS, r -> r.count(w));
        }
        always("name(count(4))", Checks.BOUNDS, r -> r.name(r.count(4)));
        always("event(count(9), 0)", Checks.BOUNDS, r -> r.event(r.count(9), 0));
        always("track(count(10), 0)", Checks.BOUNDS, r -> r.track(r.count(10), 0));
        always("inside(count(2))", Checks.BOUNDS, r -> r.inside(r.count(2)));
        always("report(4, 5, 5, 99)", Checks.BOUNDS, r -> r.report(4, 5, 5, 99));
        always("blip(10, 0)", Checks.BOUNDS, r -> r.blip(10, 0));
        always("blip(0, 5)", Checks.BOUNDS, r -> r.blip(0, 5));
        always("track(0, 8)", Checks.BOUNDS, r -> r.track(0, 8));
        always("path(0, 12, true)", Checks.BOUNDS, r -> r.path(0, 12, true));
        always("event(0, 4)", Checks.BOUNDS, r -> r.event(0, 4));
    }

    private void whatIsRefusedWhenFull() {
        whenFull("a fifth station", Checks.STATE, r -> r.addStation(5, 5, 5));
        whenFull("an eleventh piece of land", Checks.STATE, r -> r.addPlace(false, 5, 5, 9, 9));
        whenFull("a seventh area", Checks.STATE, r -> r.addPlace(true, 5, 5, 9, 9));
        for (int w : new int[] {-10000, 10000}) {
            whenFull("sees(3, " + w + ", 0)", Checks.ARGUMENT, r -> r.sees(3, w, 0) ? 1 : 0);
            whenFull("sees(3, 0, " + w + ")", Checks.ARGUMENT, r -> r.sees(3, 0, w) ? 1 : 0);
            whenFull("report(3, " + w + ", 0, 99)", Checks.ARGUMENT, r -> r.report(3, w, 0, 99));
            whenFull("report(3, 0, " + w + ", 99)", Checks.ARGUMENT, r -> r.report(3, 0, w, 99));
        }
        for (int w : new int[] {0, 100, -1, MIN, MAX}) {
            whenFull("report(3, 5, 5, " + w + ")", Checks.ARGUMENT, r -> r.report(3, 5, 5, w));
        }
    }

    private void whatIsRefusedAheadOfAMark() {
        refused("restore()", Checks.STATE, r -> r.restore(), 0, marked + 1);
    }

    private void firstOfSeveral() {
        whenFull("a fifth station, its x wrong", Checks.ARGUMENT, r -> r.addStation(10000, 5, 5));
        whenFull("a fifth station, its y wrong", Checks.ARGUMENT, r -> r.addStation(5, -10000, 5));
        whenFull("a fifth station, its range 0", Checks.ARGUMENT, r -> r.addStation(5, 5, 0));
        whenFull("a fifth station, its range 20001", Checks.ARGUMENT, r -> r.addStation(5, 5, 20001));
        for (int area = 0; area <= 1; area++) {
            boolean isArea = area == 1;
            String one = isArea ? "a seventh area, " : "an eleventh piece of land, ";
            whenFull(one + "its x wrong", Checks.ARGUMENT, r -> r.addPlace(isArea, -10000, 0, 5, 5));
            whenFull(one + "its y wrong", Checks.ARGUMENT, r -> r.addPlace(isArea, 0, -10000, 5, 5));
            whenFull(one + "its u wrong", Checks.ARGUMENT, r -> r.addPlace(isArea, 0, 0, 10000, 5));
            whenFull(one + "its v wrong", Checks.ARGUMENT, r -> r.addPlace(isArea, 0, 0, 5, 10000));
            whenFull(one + "u as great as x", Checks.ARGUMENT, r -> r.addPlace(isArea, 5, 0, 5, 5));
            whenFull(one + "v as great as y", Checks.ARGUMENT, r -> r.addPlace(isArea, 0, 5, 5, 5));
        }
        for (int w : new int[] {-1, 4}) {
            always("sees(" + w + ", 10000, 0)", Checks.BOUNDS, r -> r.sees(w, 10000, 0) ? 1 : 0);
            always("sees(" + w + ", 0, -10000)", Checks.BOUNDS, r -> r.sees(w, 0, -10000) ? 1 : 0);
            always("report(" + w + ", 10000, 0, 9)", Checks.BOUNDS, r -> r.report(w, 10000, 0, 9));
            always("report(" + w + ", 0, -10000, 9)", Checks.BOUNDS, r -> r.report(w, 0, -10000, 9));
            always("report(" + w + ", 0, 0, 0)", Checks.BOUNDS, r -> r.report(w, 0, 0, 0));
            always("report(" + w + ", 0, 0, 100)", Checks.BOUNDS, r -> r.report(w, 0, 0, 100));
        }
    }

    private static CoastRadar swept500Times() {
        CoastRadar r = new CoastRadar();
        r.addStation(0, 0, 9000);
        Checks.empty(r, 499, 60);
        r.report(0, 5, 5, 50);
        r.sweep(60);
        return r;
    }

    /** Promise 9: IllegalStateException "if there were 500 sweeps", which changes nothing. */
    private static void behind500Sweeps() {
        for (int reported = 0; reported <= 1; reported++) {
            CoastRadar r = swept500Times();
            CoastRadar twin = swept500Times();
            if (reported == 1) {
                r.report(0, 500, 5, 40);
                twin.report(0, 500, 5, 40);
            }
            Checks.text("promise 9: sweep(1) behind 500", Checks.thrown(() -> r.sweep(1)), Checks.STATE);
            Checks.text("promise 9: sweep(60) behind 500", Checks.thrown(() -> r.sweep(60)), Checks.STATE);
            Checks.equal("promise 9: digest behind it", r.digest(), twin.digest());
            Checks.equal("promise 9: level behind it", r.level(5, 5), twin.level(5, 5));
            Checks.equal("promise 9: blips that wait", r.count(3), reported);
            Checks.equal("promise 9: the place of a track", r.path(0, 0, true), 80);
        }
    }

    /** Promise 9: IllegalArgumentException is named ahead of IllegalStateException. */
    private static void firstOfSeveralBehind500Sweeps() {
        CoastRadar r = swept500Times();
        long before = r.digest();
        for (int wrong : new int[] {0, 61, -1, MIN, MAX}) {
            Checks.text("promise 9: sweep(" + wrong + ") behind 500", Checks.thrown(() -> r.sweep(wrong)), Checks.ARGUMENT);
        }
        Checks.equal("promise 9: digest behind it", r.digest(), before);
    }
}
