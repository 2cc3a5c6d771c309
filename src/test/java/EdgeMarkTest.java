import java.math.BigInteger;
import java.util.ArrayList;
import java.util.List;
import java.util.function.Supplier;

/** The boundaries that the promises 19 to 21 name: a test for each such sentence. */
final class EdgeMarkTest {
    public static void main(String[] args) {
        nothingWasKept();
        emptyObjectIsKept();
        inThePlaceOfTheEarlierOne();
        markChangesNothing();
        markBehindARestore();
        itStaysKept();
        numberOfSweeps();
        fullCoastIsKept();
        roomComesBack();
        tuningIsKept();
        levelsAreKept();
        waitingBlipsAreKept();
        sweptBlipsAreKept();
        tracksAreKept();
        areasOfTracksAreKept();
        lostOnesAreKept();
        lostOnesOfThenAreKept();
        eventsAreKept();
        namesAreKept();
        fiveHundredSweepsAreKept();
        laterCallsDoNotReachIt();
        digestOfANewObject();
        digestWrapsAround();
        digestOfFullRows();
        digestOfEachBlip();
        Checks.end("EdgeMarkTest");
    }

    /** Promise 20: IllegalStateException "if nothing was kept". */
    private static void nothingWasKept() {
        CoastRadar r = new CoastRadar();
        Checks.refuses(r, "promise 20: on a new object", Checks.STATE, () -> r.restore());
        r.addStation(0, 0, 9);
        r.report(0, 5, 5, 9);
        r.sweep(1);
        Checks.refuses(r, "promise 20: still nothing was kept", Checks.STATE, () -> r.restore());
        Checks.refuses(r, "promise 20: and again", Checks.STATE, () -> r.restore());
        CoastRadar other = new CoastRadar();
        other.mark();
        Checks.refuses(r, "promise 20: what another object kept is not there", Checks.STATE, () -> r.restore());
        Checks.equal("promise 19: mark()", r.mark(), 1);
        Checks.equal("promise 20: now it was", r.restore(), 1);
    }

    /** Promise 19 on the empty object: "Keeps all as it is". */
    private static void emptyObjectIsKept() {
        CoastRadar r = new CoastRadar();
        long empty = r.digest();
        Checks.equal("promise 19: no sweep yet", r.mark(), 0);
        r.addStation(0, 0, 20000);
        r.addPlace(false, 900, 900, 950, 950);
        r.addPlace(true, 0, 0, 9, 9);
        r.tune(7, 8, 9, 10);
        for (int i = 0; i < 3; i++) {
            Checks.sweep(r, 1, 5, 5);
        }
        Checks.equal("promise 20: back to no sweep", r.restore(), 0);
        for (int what = 0; what <= 10; what++) {
            Checks.equal("promise 20: count(" + what + ")", r.count(what), 0);
        }
        Checks.equal("promise 20: digest()", r.digest(), empty);
        Checks.equal("promise 20: the level", r.level(5, 5), 0);
        Checks.equal("promise 20: the gate", r.tune(100, 300, 8, 4), 300);
        Checks.refuses(r, "promise 20: no station", Checks.BOUNDS, () -> r.report(0, 5, 5, 9));
        Checks.refuses(r, "promise 20: no blip", Checks.BOUNDS, () -> r.blip(0, 0));
        Checks.refuses(r, "promise 20: no event", Checks.BOUNDS, () -> r.event(0, 0));
    }

    /** Promise 19: "in the place of what was kept before". */
    private static void inThePlaceOfTheEarlierOne() {
        CoastRadar r = Checks.radar(10, 0);
        Checks.sweep(r, 1, 5, 5);
        Checks.equal("promise 19: the first mark", r.mark(), 1);
        Checks.sweep(r, 1, 500, 5);
        Checks.sweep(r, 1, 500, 5);
        long second = r.digest();
        Checks.equal("promise 19: the second mark", r.mark(), 3);
        Checks.empty(r, 4, 1);
        Checks.equal("promise 20: the second one", r.restore(), 3);
        Checks.equal("promise 20: digest()", r.digest(), second);
        Checks.equal("promise 20: the second one again, not the first one", r.restore(), 3);
        Checks.text("promise 20: names", Checks.names(r), "1");
    }

    /** Promise 19: mark() itself changes nothing, nor does restore() behind it. */
    private static void markChangesNothing() {
        CoastRadar r = Checks.firm(0, 0, 16, -16, 500, 0, 0, 16);
        r.report(0, 7, 8, 99);
        long before = r.digest();
        r.mark();
        Checks.equal("promise 19: digest behind it", r.digest(), before);
        Checks.equal("promise 20: sweeps", r.restore(), 3);
        Checks.equal("promise 20: digest behind it", r.digest(), before);
    }

    /** Promises 19 and 20: what is kept behind a restore is what was brought back, and what came then. */
    private static void markBehindARestore() {
        CoastRadar r = Checks.radar(10, 0);
        Checks.sweep(r, 1, 5, 5);
        r.mark();
        Checks.empty(r, 3, 1);
        r.restore();
        Checks.sweep(r, 1, 6, 5);
        Checks.equal("promise 19: sweeps", r.mark(), 2);
        Checks.empty(r, 3, 1);
        Checks.equal("promise 20: sweeps", r.restore(), 2);
        Checks.equal("promise 20: x", r.track(0, 0), 96);
        Checks.equal("promise 20: x ahead of it", r.path(0, 1, true), 80);
    }

    /** Promise 20: "(it stays kept)". */
    private static void itStaysKept() {
        CoastRadar r = Checks.radar(10, 0);
        r.addPlace(true, 0, 0, 9, 9);
        for (int i = 0; i < 3; i++) {
            Checks.sweep(r, 1, 5, 5);
        }
        r.mark();
        long due = r.digest();
        for (int i = 0; i < 4; i++) {
            Checks.sweep(r, 60, 9, 9, 100 * i, 500);
            r.addPlace(true, i, i, 10, 10);
            r.addPlace(false, 900, 900, 901, 901);
            r.addStation(i, i, 9);
            r.tune(1 + i, 1 + i, i, i);
            Checks.equal("promise 20: sweeps", r.restore(), 3);
            Checks.equal("promise 20: digest()", r.digest(), due);
            Checks.equal("promise 20: the gate", r.tune(0, 10, 16, 0), 10);
        }
    }

    /** Promises 19 and 20: "Returns the number of sweeps", "of sweeps then", of 0 and more. */
    private static void numberOfSweeps() {
        CoastRadar r = new CoastRadar();
        for (int sweeps = 0; sweeps <= 4; sweeps++) {
            Checks.equal("promise 19: sweeps", r.mark(), sweeps);
            Checks.empty(r, 2, 1);
            Checks.equal("promise 20: sweeps", r.restore(), sweeps);
            Checks.equal("promise 10: sweeps", r.count(7), sweeps);
            Checks.equal("promise 10: ticks", r.count(8), 60 * sweeps);
            r.sweep(60);
        }
    }

    private static CoastRadar full() {
        CoastRadar r = new CoastRadar();
        for (int i = 0; i < 4; i++) {
            r.addStation(100 * i, 0, 1000 + i);
        }
        for (int i = 0; i < 10; i++) {
            r.addPlace(false, 10 * i + 1, 100, 10 * i + 9, 110);
        }
        for (int i = 0; i < 6; i++) {
            r.addPlace(true, i, i, 10 * i + 9, 20);
        }
        return r;
    }

    /** Promise 19: "the coast", with as much as there can be. */
    private static void fullCoastIsKept() {
        CoastRadar r = full();
        r.mark();
        r.sweep(1);
        r.restore();
        int[] due = {4, 10, 6};
        for (int what = 0; what <= 2; what++) {
            Checks.equal("promise 20: count(" + what + ")", r.count(what), due[what]);
        }
        Checks.refuses(r, "promise 20: no fifth station", Checks.STATE, () -> r.addStation(0, 0, 9));
        Checks.refuses(r, "promise 20: no more land", Checks.STATE, () -> r.addPlace(false, 0, 0, 9, 9));
        Checks.refuses(r, "promise 20: no more areas", Checks.STATE, () -> r.addPlace(true, 0, 0, 9, 9));
        for (int i = 0; i < 4; i++) {
            Checks.isTrue("promise 20: the range of station " + i, r.sees(i, 100 * i, -1000 - i));
            Checks.isFalse("promise 20: no more", r.sees(i, 100 * i, -1001 - i));
        }
        for (int i = 0; i < 10; i++) {
            Checks.isFalse("promise 20: land " + i, r.sees(0, 10 * i + 5, 105));
            Checks.isTrue("promise 20: beside it", r.sees(0, 10 * i + 5, 100));
        }
    }

    /** Promise 20, the same: what was added behind the mark is gone, and its numbers are given again. */
    private static void roomComesBack() {
        CoastRadar r = new CoastRadar();
        r.mark();
        for (int round = 0; round < 2; round++) {
            for (int i = 0; i < 4; i++) {
                Checks.equal("promise 20: stations", r.addStation(0, 0, 20000), i);
            }
            for (int i = 0; i < 10; i++) {
                Checks.equal("promise 20: land", r.addPlace(false, 500, 500, 501, 501), i);
                Checks.equal("promise 20: blips", r.report(0, 1000 * i - 5, 0, 9), 0);
            }
            for (int i = 0; i < 6; i++) {
                Checks.equal("promise 20: areas", r.addPlace(true, 0, 0, 1, 1), i);
            }
            Checks.equal("promise 20: an eleventh blip", r.report(0, 0, 5000, 9), 3);
            r.sweep(1);
            Checks.equal("promise 20: names", r.name(9), 9);
            r.restore();
        }
    }

    /** Promise 19: "what tune() sets", at their limits. */
    private static void tuningIsKept() {
        CoastRadar r = Checks.stations(2);
        r.tune(500, 2000, 0, 16);
        r.mark();
        r.tune(0, 1, 16, 0);
        r.restore();
        r.report(0, 0, 0, 9);
        r.report(1, 500, 0, 9);
        Checks.equal("promise 20: the blur", r.count(3), 1);
        r.sweep(1);
        Checks.sweep(r, 60, 2250, 0);
        Checks.equal("promise 20: the gate", r.track(0, 5), 2);
        Checks.equal("promise 20: a", r.track(0, 0), 250 * 16);
        Checks.equal("promise 20: b, 16 * 32000 / 60", r.track(0, 2), 8533);
        Checks.equal("promise 20: the gate as it is told", r.tune(0, 1, 0, 0), 2000);
    }

    /** Promise 19: "fields", at 0 and at 60. */
    private static void levelsAreKept() {
        CoastRadar r = Checks.radar(1, 0);
        for (int round = 0; round < 2; round++) {
            for (int i = 0; i < 10; i++) {
                r.report(0, -50 * i - 1, -100 * round - 1, 99);
            }
            r.sweep(1);
        }
        Checks.equal("set up: the level", r.level(-1, -1), 60);
        r.mark();
        Checks.sweep(r, 1, 400, 400);
        Checks.sweep(r, 1, -500, -900);
        Checks.sweep(r, 1, -500, -900);
        Checks.equal("set up: 60, 3 greater and 1 less", r.level(-1, -1), 59);
        Checks.equal("set up: beside it, 3 greater", r.level(0, 0), 3);
        r.restore();
        Checks.equal("promise 20: the level", r.level(-1, -1), 60);
        Checks.equal("promise 20: beside it", r.level(0, 0), 0);
        Checks.equal("promise 20: a strength of 60", r.report(0, -5, -5, 60), 2);
        Checks.equal("promise 20: beside it, of 1", r.report(0, 5, 5, 1), 0);
    }

    /** Promise 19: "blips", those that wait: ten of them. */
    private static void waitingBlipsAreKept() {
        CoastRadar r = Checks.stations(2);
        for (int i = 0; i < 10; i++) {
            r.report(0, 200 * i, -200 * i, 10 + i);
        }
        r.report(1, 100, 0, 99);
        r.mark();
        r.report(1, 1800, -1801, 98);
        r.sweep(1);
        r.restore();
        Checks.equal("promise 20: ten wait", r.count(3), 10);
        Checks.equal("promise 20: an eleventh one", r.report(0, 0, 5000, 9), 3);
        int[] first = {50, 0, 99, 3, -1};
        int[] last = {1800, -1800, 19, 1, -1};
        for (int what = 0; what <= 4; what++) {
            Checks.equal("promise 20: blip(0, " + what + ")", r.blip(0, what), first[what]);
            Checks.equal("promise 20: blip(9, " + what + ")", r.blip(9, what), last[what]);
        }
        r.report(1, 1801, -1801, 5);
        Checks.equal("promise 20: by whom the last one was seen then", r.blip(9, 3), 3);
        Checks.equal("promise 20: where it is then", r.blip(9, 1), -1801);
    }

    /** Promise 19: "blips", those of the latest sweep; and none at all. */
    private static void sweptBlipsAreKept() {
        CoastRadar r = Checks.stations(1);
        r.mark();
        r.report(0, 5, 6, 7);
        r.restore();
        Checks.equal("promise 20: none waits", r.count(3), 0);
        Checks.refuses(r, "promise 20: nor was one swept", Checks.BOUNDS, () -> r.blip(0, 0));
        Checks.sweep(r, 1, 5, 6, 500, 6);
        r.mark();
        Checks.sweep(r, 1, 900, 6);
        r.restore();
        Checks.equal("promise 20: the second one of the sweep then", r.blip(1, 0), 500);
        Checks.equal("promise 20: its name", r.blip(1, 4), 1);
        r.sweep(1);
        r.restore();
        r.report(0, 50, 60, 70);
        r.restore();
        Checks.equal("promise 20: one that waited is gone", r.blip(0, 0), 5);
    }

    /** Promise 19: "tracks": one that is new, one that is firm, one that coasts, with 12 sweeps of their places. */
    private static void tracksAreKept() {
        CoastRadar r = Checks.radar(20, 1);
        for (int i = 0; i < 12; i++) {
            Checks.sweep(r, 1 + i, 5 * i, 0, 10 * i, 500);
        }
        Checks.sweep(r, 1, 60, 0, 0, 2000);
        long before = r.digest();
        r.mark();
        List<Long> due = later(r);
        r.restore();
        Checks.equal("promise 20: digest()", r.digest(), before);
        for (int i = 0; i < 2; i++) {
            Checks.equal("promise 20: what comes is what came, round " + i, due.equals(later(r)) ? 1 : 0, 1);
            r.restore();
        }
    }

    /** What is told of the places of tracks, and what comes then. */
    private static List<Long> later(CoastRadar r) {
        List<Long> told = new ArrayList<>();
        for (int name = 0; name < 3; name++) {
            for (int back = 0; back < (name < 2 ? 12 : 1); back++) {
                told.add((long) r.path(name, back, true));
                told.add((long) r.path(name, back, false));
            }
        }
        for (int sweep = 0; sweep < 3; sweep++) {
            Checks.sweep(r, 7, 62 + sweep, 0, 1, 2001);
            told.add(r.digest());
        }
        return told;
    }

    /** Promise 19, the same: in which areas a track was at the end of the sweep ahead. */
    private static void areasOfTracksAreKept() {
        CoastRadar r = Checks.radar(100, 0);
        r.addPlace(true, 0, 0, 9, 9);
        for (int i = 0; i < 3; i++) {
            Checks.sweep(r, 1, 5, 5);
        }
        r.mark();
        Checks.sweep(r, 1, 50, 50);
        Checks.text("it leaves", Checks.eventsOf(r, 3), "8:0:0");
        r.restore();
        Checks.sweep(r, 1, 6, 6);
        Checks.text("promise 20: it was in it, and does not enter", Checks.eventsOf(r, 3), "");
        Checks.sweep(r, 1, 50, 50);
        r.mark();
        Checks.sweep(r, 1, 5, 5);
        r.restore();
        Checks.sweep(r, 1, 51, 51);
        Checks.text("promise 20: it was not in it, and does not leave", Checks.eventsOf(r, 5), "");
    }

    /** Promise 19: "lost ones", with the sweep and the ticks in which they were lost. */
    private static void lostOnesAreKept() {
        CoastRadar r = Checks.firm(0, 0, 16, 0);
        Checks.empty(r, 5, 16);
        r.tune(0, 10, 16, 0);
        Checks.equal("set up: one is lost", r.count(6), 1);
        r.mark();
        for (int round = 0; round < 2; round++) {
            for (int i = 0; i < 12; i++) {
                Checks.equal("promise 20: it can be known ahead of sweep " + (8 + i), r.count(6), 1);
                r.sweep(60);
            }
            Checks.equal("promise 20: ahead of sweep 20 it can't", r.count(6), 0);
            r.restore();
        }
        // It was lost at 5 places; 48 ticks later it is at 8.
        for (int more = 0; more <= 1; more++) {
            for (int i = 0; i < 3; i++) {
                Checks.sweep(r, 16, 48 + more, 0);
            }
            Checks.equal("promise 20: 4 gates and " + more + " away", r.name(0), more);
            r.restore();
        }
    }

    /** Promise 19, the same, when another one has been lost in the place of it: elsewhere, later, and with another speed. */
    private static void lostOnesOfThenAreKept() {
        for (int more = 0; more <= 1; more++) {
            CoastRadar r = Checks.firm(0, 0, 16, -32);
            Checks.empty(r, 5, 16);
            r.tune(0, 10, 16, 1);
            r.mark();
            Checks.empty(r, 13, 16);
            Checks.equal("set up: none is lost", r.count(6), 0);
            for (int i = 0; i < 3; i++) {
                Checks.sweep(r, 16, 3000 + 3 * i, 3000 + 5 * i);
            }
            Checks.empty(r, 5, 16);
            Checks.equal("set up: another one is lost", r.count(6), 1);
            r.restore();
            // It was lost in sweep 7 at 5, -10, and goes 1, -2 in each sweep: 8, -16 in sweep 10.
            r.tune(0, 1, 16, 0);
            for (int i = 0; i < 3; i++) {
                Checks.sweep(r, 16, 8 - 4 - more, -16);
            }
            Checks.equal("promise 20: 4 gates and " + more + " from where it is expected", r.name(0), more);
            r.restore();
            r.tune(0, 1, 16, 0);
            for (int i = 0; i < 3; i++) {
                Checks.sweep(r, 16, 8, -16 + 4 + more);
            }
            Checks.equal("promise 20: the same by y", r.name(0), more);
            r.restore();
            Checks.empty(r, 11, 1);
            Checks.equal("promise 20: ahead of sweep 19", r.count(6), 1);
            r.sweep(1);
            Checks.equal("promise 20: ahead of sweep 20", r.count(6), 0);
        }
    }

    /** Promise 19: "events and what is counted": when more than 120 were noted. */
    private static void eventsAreKept() {
        CoastRadar r = Checks.radar(1, 0);
        for (int round = 0; round < 13; round++) {
            for (int i = 0; i < 10 && round < 12 || i < 5; i++) {
                r.report(0, 50 * i, 100 * round, 99);
            }
            Checks.empty(r, 2, 1);
        }
        Checks.equal("set up: events", r.count(9), 125);
        long before = r.digest();
        r.mark();
        r.addPlace(true, -5, -5, 5, 5);
        for (int i = 0; i < 3; i++) {
            Checks.sweep(r, 1, 0, -3, 0, 3);
        }
        Checks.text("set up: events of other kinds take the place of the oldest ones", Checks.eventsOf(r, 28), "1:125:-1 1:126:-1 7:125:0 7:126:0");
        r.restore();
        Checks.equal("promise 20: events", r.count(9), 125);
        for (int i = 0; i < 120; i += 17) {
            Checks.equal("promise 20: event " + i, r.event(i, 2), 5 + i);
        }
        Checks.equal("promise 20: the latest one", r.event(119, 2), 124);
        Checks.equal("promise 20: all of them, by the digest", r.digest(), before);
    }

    /** Promise 19: "what is counted": names that were given behind the mark are given again. */
    private static void namesAreKept() {
        CoastRadar r = Checks.radar(10, 0);
        Checks.sweep(r, 5, 5, 5);
        r.mark();
        for (int round = 0; round < 3; round++) {
            Checks.sweep(r, 6, 100 * round + 100, 5);
            Checks.text("promise 20: names", Checks.names(r), "0 1");
            Checks.equal("promise 10: names that were given", r.count(10), 2);
            Checks.equal("promise 10: ticks", r.count(8), 11);
            Checks.equal("promise 10: events", r.count(9), 2);
            r.restore();
            Checks.equal("promise 20: names that were given", r.count(10), 1);
            Checks.equal("promise 20: ticks", r.count(8), 5);
            Checks.equal("promise 20: events", r.count(9), 1);
        }
    }

    /** Promises 9 and 20: behind a restore there were as many sweeps as then. */
    private static void fiveHundredSweepsAreKept() {
        CoastRadar r = new CoastRadar();
        Checks.empty(r, 250, 1);
        r.mark();
        Checks.empty(r, 245, 1);
        Checks.equal("promise 20: sweeps", r.restore(), 250);
        Checks.equal("promise 9: sweep 250 again", r.sweep(1), 0);
        Checks.equal("promise 10: sweeps", r.count(7), 251);
        CoastRadar s = new CoastRadar();
        Checks.empty(s, 500, 1);
        Checks.equal("promise 19: 500 sweeps", s.mark(), 500);
        Checks.equal("promise 20: 500 sweeps", s.restore(), 500);
        Checks.refuses(s, "promise 9: sweep 500", Checks.STATE, () -> s.sweep(1));
        CoastRadar t = new CoastRadar();
        t.mark();
        Checks.empty(t, 500, 1);
        Checks.refuses(t, "promise 9: sweep 500", Checks.STATE, () -> t.sweep(1));
        Checks.equal("promise 20: no sweep", t.restore(), 0);
        Checks.equal("promise 9: sweep 0", t.sweep(1), 0);
    }

    /** Promises 19 and 20: what is done behind a mark, or behind a restore, does not reach what is kept. */
    private static void laterCallsDoNotReachIt() {
        CoastRadar r = Checks.firm(0, 0, 16, 16, 900, 0, 0, 0);
        r.tune(0, 20, 16, 4);
        r.report(0, 3, 3, 99);
        r.mark();
        long due = r.digest();
        int[][] ways = {{1, 1, 900, 5}, {5, 5, 0, 900}, {-5, 5, 910, 0}};
        for (int[] way : ways) {
            for (int i = 0; i < 4; i++) {
                Checks.sweep(r, 2, way);
            }
            r.restore();
            Checks.equal("promise 20: digest()", r.digest(), due);
        }
        Checks.equal("promise 20: the blip that waits is joined to the track 0", r.sweep(1), 1);
        Checks.equal("promise 20: its name", r.blip(0, 4), 0);
    }

    /** Promise 21: "A number d starts with 431; for each of the following numbers x, d becomes d * 31 + x". */
    private static void digestOfANewObject() {
        BigInteger d = BigInteger.valueOf(431).multiply(BigInteger.valueOf(31).pow(11));
        Checks.isTrue("promise 21: it is more than 64 bits hold", d.bitLength() > 63);
        Checks.equal("promise 21: a new object", new CoastRadar().digest(), d.longValue());
        CoastRadar r = new CoastRadar();
        r.addStation(0, 0, 5);
        d = BigInteger.valueOf(431 * 31 + 1).multiply(BigInteger.valueOf(31).pow(10));
        Checks.equal("promise 21: with one station", r.digest(), d.longValue());
    }

    /**
     * All numbers of which promise 21 tells, as the other calls answer them. They may be more than an object is used for:
     * so each row of them is asked of an object that is made again.
     */
    private static List<Integer> numbers(Supplier<CoastRadar> made, int blips) {
        List<Integer> row = new ArrayList<>();
        CoastRadar r = made.get();
        for (int what = 0; what <= 10; what++) {
            row.add(r.count(what));
        }
        for (int i = 0; i < row.get(4); i++) {
            r = made.get();
            row.add(r.name(i));
            for (int what = 0; what <= 7; what++) {
                row.add(r.track(r.name(i), what));
            }
        }
        for (int i = 0; i < blips; i++) {
            r = made.get();
            for (int what = 0; what <= 4; what++) {
                row.add(r.blip(i, what));
            }
        }
        for (int i = 0; i < Math.min(120, row.get(9)); i++) {
            r = made.get();
            for (int what = 0; what <= 3; what++) {
                row.add(r.event(i, what));
            }
        }
        for (int i = 0; i < row.get(2); i++) {
            row.add(made.get().inside(i));
        }
        return row;
    }

    private static long checksum(List<Integer> row) {
        BigInteger d = BigInteger.valueOf(431);
        for (int x : row) {
            d = d.multiply(BigInteger.valueOf(31)).add(BigInteger.valueOf(x));
        }
        return d.longValue();
    }

    /** Promise 21: "which wraps around as a 64-bit integer": with numbers below 0 and above. */
    private static void digestWrapsAround() {
        int below = 0;
        int above = 0;
        for (int i = 1; i <= 12; i++) {
            CoastRadar r = Checks.firm(-9000, 8999, -i, i);
            r.addPlace(true, -9999, -9999, 9999, 9999);
            r.report(0, -7 * i, 5, 99);
            long due = checksum(numbers(() -> r, 1));
            Checks.equal("promise 21: digest()", r.digest(), due);
            Checks.equal("promise 21: digest() again", r.digest(), due);
            below += due < 0 ? 1 : 0;
            above += due > 0 ? 1 : 0;
        }
        Checks.isTrue("promise 21: some are below 0, some above", below > 0 && above > 0);
    }

    private static CoastRadar fullRows() {
        CoastRadar r = Checks.stations(1);
        r.tune(0, 10, 16, 1);
        int[] ten = new int[20];
        for (int i = 0; i < 6; i++) {
            r.addPlace(true, -50 + 100 * i, 0, 1000, 10);
        }
        for (int i = 0; i < 10; i++) {
            ten[2 * i] = 100 * i;
        }
        for (int sweep = 0; sweep < 5; sweep++) {
            Checks.sweep(r, 3, ten);
        }
        r.sweep(3);
        Checks.sweep(r, 3, ten);
        return r;
    }

    /** Promise 21 with 10 tracks, 10 blips, more than 120 events and 6 areas. */
    private static void digestOfFullRows() {
        Checks.equal("set up: ten tracks", fullRows().count(4), 10);
        Checks.equal("set up: ten names in an area", fullRows().inside(0), 1023);
        Checks.isTrue("set up: more than 120 events", fullRows().count(9) > 120);
        List<Integer> row = numbers(() -> fullRows(), 10);
        Checks.equal("promise 21: as many numbers as there can be", row.size(), 11 + 10 * 9 + 10 * 5 + 120 * 4 + 6);
        Checks.equal("promise 21: digest()", fullRows().digest(), checksum(row));
    }

    private static void digests(String what, CoastRadar r, int blips) {
        Checks.equal("promise 21: " + what, r.digest(), checksum(numbers(() -> r, blips)));
    }

    /** Promise 21: "for each blip that blip() can tell of": those that wait, or those of the latest sweep, or none. */
    private static void digestOfEachBlip() {
        CoastRadar r = Checks.radar(10, 1);
        r.addPlace(true, 0, 0, 9, 9);
        digests("no blip", r, 0);
        r.report(0, 5, 5, 99);
        r.report(0, 500, 5, 98);
        digests("two wait", r, 2);
        r.sweep(1);
        digests("two of the latest sweep", r, 2);
        r.report(0, 6, 5, 97);
        digests("one waits", r, 1);
        r.sweep(1);
        r.sweep(1);
        digests("a sweep without blips", r, 0);
    }
}
