/** The boundaries that the terms of events and nearness and the promises 10 to 18 name: a test for each such sentence. */
final class EdgeTrackTest {
    private static final int MIN = Integer.MIN_VALUE;
    private static final int MAX = Integer.MAX_VALUE;

    public static void main(String[] args) {
        whatIsCounted();
        countsAtTheirLimits();
        noSuchTrackByIndex();
        noTrackWithThisName();
        nameThatWasTaken();
        whatOfATrack();
        speedsOfATrack();
        sweepsOfItsOwn();
        twelveSweepsBack();
        itDidNotBeginSoEarly();
        noSuchPath();
        placesOfItsOwn();
        pathOfAMissedSweep();
        squareOfTheSpeed();
        noSuchSpeed();
        nearestOfNoTracks();
        nearestToItself();
        leastOfAllTicks();
        firstTickIsNow();
        lastTickIs300();
        roundedSpeedsOfBoth();
        nearestOfAllStates();
        farthestOfAll();
        limitOfADanger();
        asNearAsTheLimit();
        asNearAsTheLimitBySixteenths();
        dangersOfFirmOnes();
        pairsOfTen();
        noSuchArea();
        namesBelow31();
        insideFirmOnes();
        noSuchEvent();
        whatOfAnEvent();
        latest120();
        sweepOfAnEvent();
        otherNumbers();
        allKindsInOrder();
        Checks.end("EdgeTrackTest");
    }

    private static CoastRadar still(int... places) {
        CoastRadar r = Checks.radar(10, 0);
        for (int i = 0; i < 3; i++) {
            Checks.sweep(r, 1, places);
        }
        return r;
    }

    /** Promise 10: IndexOutOfBoundsException "if what is not 0 to 10". */
    private static void whatIsCounted() {
        for (CoastRadar r : new CoastRadar[] {new CoastRadar(), still(5, 5)}) {
            for (int wrong : new int[] {-1, 11, MIN, MAX}) {
                Checks.refuses(r, "promise 10: count(" + wrong + ")", Checks.BOUNDS, () -> r.count(wrong));
            }
            Checks.equal("promise 10: count(0)", r.count(0), r.count(7) == 0 ? 0 : 1);
            Checks.equal("promise 10: count(10)", r.count(10), r.count(7) == 0 ? 0 : 1);
        }
    }

    /** Promise 10: each number as great as it can be, or nearly so. */
    private static void countsAtTheirLimits() {
        CoastRadar r = Checks.stations(4);
        for (int i = 0; i < 10; i++) {
            r.addPlace(false, 9000 + i, 9000, 9999, 9999);
            if (i < 6) {
                r.addPlace(true, 0, i, 9000, 9000);
            }
        }
        r.tune(0, 1, 8, 4);
        for (int round = 0; round < 3; round++) {
            for (int i = 0; i < 10; i++) {
                r.report(0, 800 * i, 10, 99);
            }
            Checks.equal("promise 10: blips that wait", r.count(3), 10);
            r.sweep(60);
        }
        int[] due = {4, 10, 6, 0, 10, 10, 0, 3, 180, 80, 10};
        for (int what = 0; what <= 10; what++) {
            Checks.equal("promise 10: count(" + what + ")", r.count(what), due[what]);
        }
        Checks.empty(r, 5, 60);
        int[] later = {4, 10, 6, 0, 0, 0, 10, 8, 480, 100, 10};
        for (int what = 0; what <= 10; what++) {
            Checks.equal("promise 10: count(" + what + "), when all are lost", r.count(what), later[what]);
        }
    }

    /** Promise 11: IndexOutOfBoundsException "if there is no such track". */
    private static void noSuchTrackByIndex() {
        for (int tracks = 0; tracks <= 10; tracks++) {
            CoastRadar r = Checks.radar(10, 0);
            for (int i = 0; i < tracks; i++) {
                r.report(0, 100 * i, 0, 99);
            }
            r.sweep(1);
            for (int i = 0; i < tracks; i++) {
                Checks.equal("promise 11: name(" + i + ")", r.name(i), i);
            }
            for (int wrong : new int[] {-1, tracks, 10, MIN, MAX}) {
                Checks.refuses(r, "promise 11: name(" + wrong + ") of " + tracks, Checks.BOUNDS, () -> r.name(wrong));
            }
        }
    }

    /** Promises 12 to 15: IndexOutOfBoundsException "if there is no track with this name now". */
    private static void noTrackWithThisName() {
        CoastRadar r = Checks.radar(10, 0);
        Checks.sweep(r, 1, 0, 0, 100, 0, 200, 0);
        Checks.sweep(r, 1, 100, 0);
        Checks.sweep(r, 1, 100, 0);
        Checks.text("set up: names", Checks.names(r), "1");
        Checks.equal("promise 12: the name 1", r.track(1, 5), 3);
        for (int wrong : new int[] {-1, 0, 2, 3, MIN, MAX}) {
            Checks.refuses(r, "promise 12: track(" + wrong + ", 0)", Checks.BOUNDS, () -> r.track(wrong, 0));
            Checks.refuses(r, "promise 13: path(" + wrong + ", 0)", Checks.BOUNDS, () -> r.path(wrong, 0, true));
            Checks.refuses(r, "promise 14: speed(" + wrong + ")", Checks.BOUNDS, () -> (long) r.speed(wrong));
            Checks.refuses(r, "promise 15: nearest(" + wrong + ", 1)", Checks.BOUNDS, () -> r.nearest(wrong, 1));
            Checks.refuses(r, "promise 15: nearest(1, " + wrong + ")", Checks.BOUNDS, () -> r.nearest(1, wrong));
        }
        Checks.empty(r, 5, 1);
        Checks.refuses(r, "promise 12: the name 1 when it is lost", Checks.BOUNDS, () -> r.track(1, 0));
        Checks.refuses(r, "promise 13: the name 1 when it is lost", Checks.BOUNDS, () -> r.path(1, 0, true));
        Checks.refuses(r, "promise 14: the name 1 when it is lost", Checks.BOUNDS, () -> (long) r.speed(1));
        Checks.refuses(r, "promise 15: the name 1 when it is lost", Checks.BOUNDS, () -> r.nearest(1, 1));
    }

    /** Promises 12 to 15, the same: of a track that is known again, its own name is none, and the name that it took is. */
    private static void nameThatWasTaken() {
        CoastRadar r = still(0, 0);
        Checks.empty(r, 5, 1);
        Checks.refuses(r, "promise 12: it is lost", Checks.BOUNDS, () -> r.track(0, 0));
        for (int i = 0; i < 3; i++) {
            Checks.sweep(r, 1, 7, 0);
        }
        Checks.equal("promise 12: the name that it took", r.track(0, 0), 112);
        Checks.equal("promise 13: the name that it took", r.path(0, 2, true), 112);
        Checks.equal("promise 15: the name that it took", r.nearest(0, 0), 0);
        Checks.refuses(r, "promise 12: its own name", Checks.BOUNDS, () -> r.track(1, 0));
        Checks.refuses(r, "promise 13: its own name", Checks.BOUNDS, () -> r.path(1, 0, true));
        Checks.refuses(r, "promise 14: its own name", Checks.BOUNDS, () -> (long) r.speed(1));
        Checks.refuses(r, "promise 15: its own name", Checks.BOUNDS, () -> r.nearest(1, 0));
    }

    /** Promise 12: IndexOutOfBoundsException if "what is not 0 to 7". */
    private static void whatOfATrack() {
        CoastRadar r = still(5, -6);
        Checks.equal("promise 12: what 0", r.track(0, 0), 80);
        Checks.equal("promise 12: what 7", r.track(0, 7), 3);
        for (int wrong : new int[] {-1, 8, MIN, MAX}) {
            Checks.refuses(r, "promise 12: what " + wrong, Checks.BOUNDS, () -> r.track(0, wrong));
            Checks.refuses(r, "promise 12: what " + wrong + " of no track", Checks.BOUNDS, () -> r.track(1, wrong));
        }
    }

    /** Terms: "(16 times as great as above) and a speed in 256ths per tick, for x and for y", below 0 too. */
    private static void speedsOfATrack() {
        int[][] rows = {{9999, 9999, 0, 0}, {-9999, -9999, 0, 0}, {100, -100, 1, -1}, {-100, 100, -1, 1}, {0, 0, 1024, -1024}};
        for (int[] row : rows) {
            CoastRadar r = Checks.firm(row);
            for (int what = 0; what <= 3; what++) {
                Checks.equal("promise 12: what " + what, r.track(0, what), what < 2 ? 16 * row[what] : row[what]);
            }
        }
    }

    /** Promise 12: "in how many sweeps it has been, that with which it began too (with a name that it took, only its own)". */
    private static void sweepsOfItsOwn() {
        CoastRadar r = Checks.radar(10, 0);
        for (int sweeps = 1; sweeps <= 15; sweeps++) {
            Checks.sweep(r, 1, 5, 5);
            Checks.equal("promise 12: sweeps", r.track(0, 7), sweeps);
        }
        for (int misses = 1; misses <= 4; misses++) {
            r.sweep(1);
            Checks.equal("promise 12: those that it has missed count", r.track(0, 7), 15 + misses);
            Checks.equal("promise 12: joins", r.track(0, 5), 15);
        }
        r.sweep(1);
        for (int i = 0; i < 3; i++) {
            Checks.sweep(r, 1, 5, 5);
        }
        Checks.equal("promise 12: only its own sweeps", r.track(0, 7), 3);
        Checks.equal("promise 12: only its own joins", r.track(0, 5), 3);
        Checks.equal("promise 12: its own misses", r.track(0, 6), 0);
    }

    /** Promise 13: IndexOutOfBoundsException if "back is not 0 to 11". */
    private static void twelveSweepsBack() {
        CoastRadar r = Checks.radar(10, 0);
        for (int i = 0; i < 14; i++) {
            Checks.sweep(r, 1, i, -2 * i);
        }
        for (int back = 0; back <= 11; back++) {
            Checks.equal("promise 13: x, back " + back, r.path(0, back, true), 16 * (13 - back));
            Checks.equal("promise 13: y, back " + back, r.path(0, back, false), -32 * (13 - back));
        }
        for (int wrong : new int[] {-1, 12, 13, 14, MIN, MAX}) {
            Checks.refuses(r, "promise 13: back " + wrong, Checks.BOUNDS, () -> r.path(0, wrong, true));
            Checks.refuses(r, "promise 13: back " + wrong + ", y", Checks.BOUNDS, () -> r.path(0, wrong, false));
        }
    }

    /** Promise 13: IndexOutOfBoundsException if "it did not begin so early". */
    private static void itDidNotBeginSoEarly() {
        CoastRadar r = Checks.radar(10, 0);
        Checks.empty(r, 5, 1);
        for (int sweeps = 1; sweeps <= 12; sweeps++) {
            Checks.sweep(r, 1, 5, 6);
            Checks.equal("promise 13: the sweep with which it began", r.path(0, sweeps - 1, true), 80);
            int early = sweeps;
            Checks.refuses(r, "promise 13: one sweep ahead of that", Checks.BOUNDS, () -> r.path(0, early, true));
            Checks.refuses(r, "promise 13: y, too", Checks.BOUNDS, () -> r.path(0, early, false));
        }
    }

    /** Promise 13: of two exceptions that are the same, one is thrown. */
    private static void noSuchPath() {
        CoastRadar r = still(5, 6);
        Checks.refuses(r, "promise 13: neither name nor back", Checks.BOUNDS, () -> r.path(1, 12, true));
        Checks.refuses(r, "promise 13: neither name nor back, below 0", Checks.BOUNDS, () -> r.path(-1, -1, false));
        Checks.equal("promise 13: both", r.path(0, 2, false), 96);
    }

    /** Promise 13: "(its own; those of a lost one whose name it took do not count)". */
    private static void placesOfItsOwn() {
        CoastRadar r = still(0, 0);
        Checks.empty(r, 5, 1);
        for (int i = 0; i < 3; i++) {
            Checks.sweep(r, 1, 10 + i, 20);
        }
        for (int back = 0; back <= 2; back++) {
            Checks.equal("promise 13: its own place", r.path(0, back, true), 16 * (12 - back));
        }
        for (int back = 3; back <= 11; back++) {
            int wrong = back;
            Checks.refuses(r, "promise 13: the lost one's, back " + back, Checks.BOUNDS, () -> r.path(0, wrong, true));
        }
    }

    /** Promise 13: "where it was at the end of this sweep", one that it has missed, too. */
    private static void pathOfAMissedSweep() {
        CoastRadar r = Checks.firm(10, 20, 24, -24);
        r.sweep(1);
        r.sweep(1);
        int[] x = {164, 162, 160, 160};
        int[] y = {318, 319, 320, 320};
        for (int back = 0; back <= 3; back++) {
            Checks.equal("promise 13: x, back " + back, r.path(0, back, true), x[back]);
            Checks.equal("promise 13: y, back " + back, r.path(0, back, false), y[back]);
        }
    }

    /** Promise 14: "the sum of the squares of both numbers in 256ths, divided by 65536". */
    private static void squareOfTheSpeed() {
        int[][] rows = {{0, 0}, {1, 0}, {0, -1}, {1, 1}, {256, 0}, {-256, 256}, {255, -1}, {1024, -1024}, {3, 4}};
        for (int[] row : rows) {
            CoastRadar r = Checks.moving(0, 0, row[0], row[1]);
            double due = (row[0] * row[0] + row[1] * row[1]) / 65536.0;
            Checks.equal("promise 14: " + row[0] + ", " + row[1], Double.doubleToLongBits(r.speed(0)), Double.doubleToLongBits(due));
        }
        for (int sign = -1; sign <= 1; sign += 2) {
            CoastRadar r = Checks.radar(2000, 16);
            Checks.sweep(r, 1, 0, 0);
            Checks.sweep(r, 1, sign * 900, -sign * 900);
            Checks.isTrue("promise 14: the greatest speed of both", r.speed(0) == 8192.0);
        }
    }

    /** Promise 14: IndexOutOfBoundsException "if there is no such track with this name now". */
    private static void noSuchSpeed() {
        CoastRadar r = new CoastRadar();
        for (int wrong : new int[] {-1, 0, 1, MIN, MAX}) {
            Checks.refuses(r, "promise 14: " + wrong + " of none", Checks.BOUNDS, () -> (long) r.speed(wrong));
        }
        CoastRadar s = still(5, 5);
        for (int wrong : new int[] {-1, 1, MIN, MAX}) {
            Checks.refuses(s, "promise 14: " + wrong + " of one", Checks.BOUNDS, () -> (long) s.speed(wrong));
        }
        Checks.isTrue("promise 14: of one that stays", s.speed(0) == 0.0);
    }

    /** Promise 15: IndexOutOfBoundsException "if there is no such track with this name now". */
    private static void nearestOfNoTracks() {
        CoastRadar r = still(5, 5, 100, 5);
        for (int wrong : new int[] {-1, 2, MIN, MAX}) {
            Checks.refuses(r, "promise 15: a is " + wrong, Checks.BOUNDS, () -> r.nearest(wrong, 0));
            Checks.refuses(r, "promise 15: b is " + wrong, Checks.BOUNDS, () -> r.nearest(1, wrong));
            Checks.refuses(r, "promise 15: both are " + wrong, Checks.BOUNDS, () -> r.nearest(wrong, wrong));
        }
        Checks.equal("promise 15: both are there", r.nearest(0, 1), 1520 * 1520);
    }

    /** Promise 15: a track and itself. */
    private static void nearestToItself() {
        CoastRadar r = Checks.firm(5, 5, 100, -100);
        Checks.equal("promise 15: a track and itself", r.nearest(0, 0), 0);
    }

    private static void near(String what, long due, int... rows) {
        CoastRadar r = Checks.firm(rows);
        Checks.equal("nearness: " + what, r.nearest(0, 1), due);
        Checks.equal("nearness: " + what + ", the other way round", r.nearest(1, 0), due);
    }

    /** Nearness: "the least one over all these t", which are whole. */
    private static void leastOfAllTicks() {
        near("they meet in 50 ticks", 0, 0, 0, 256, 0, 100, 0, -256, 0);
        near("they pass between two ticks", 16 * 16, 0, 0, 256, 0, 101, 0, -256, 0);
        near("they pass side by side", 160 * 160, 0, 0, 256, 0, 100, 10, -256, 0);
        near("they pass aslant, in 100 ticks", 0, 0, 0, 256, 0, 100, 100, 0, -256);
        near("they pass aslant, as near in 100 ticks as in 101", 16 * 16, 0, 0, 128, 0, 100, 101, -128, -256);
    }

    /** Nearness: "in t ticks from now, 0 to 300": now counts. */
    private static void firstTickIsNow() {
        near("they go apart", 320 * 320, 0, 0, -8, 0, 20, 0, 8, 0);
        near("they stay", 160 * 160, 0, 0, 0, 0, 10, 0, 0, 0);
        near("they are at one place, and go apart", 0, 0, 0, 0, -16, 0, 0, 0, 16);
        near("they go side by side", 160 * 160, 0, 0, 99, 98, 10, 0, 99, 98);
    }

    /** Nearness, the same: 300 ticks count, 301 do not. */
    private static void lastTickIs300() {
        near("one comes to the other in 299 ticks", 0, 0, 0, 256, 0, 299, 0, 0, 0);
        near("one comes to the other in 300 ticks", 0, 0, 0, 256, 0, 300, 0, 0, 0);
        near("it would in 301 ticks", 16 * 16, 0, 0, 256, 0, 301, 0, 0, 0);
        near("it comes, in 300 ticks, from the other side", 0, 0, 0, -256, 0, -300, 0, 0, 0);
        near("it would in 301 ticks, y", 16 * 16, 0, 0, 0, -256, 0, -301, 0, 0);
        near("one sixteenth a tick: 20 of 320 are left", 20 * 20, 0, 0, 16, 0, 20, 0, 0, 0);
    }

    /** Nearness: "the rounded speed * t / 16, for each of both": the greater one of two, above and below 0. */
    private static void roundedSpeedsOfBoth() {
        // In 5 ticks the first one is where the second one is, by x; by y it is 2.5 sixteenths on, or back.
        near("2.5 of the first one", 3 * 3, 0, 0, 256, 8, 5, 0, 0, 0);
        near("-2.5 of the first one", 2 * 2, 0, 0, 256, -8, 5, 0, 0, 0);
        near("2.5 of the second one", 3 * 3, 0, 0, 256, 0, 5, 0, 0, 8);
        near("-2.5 of the second one", 2 * 2, 0, 0, 256, 0, 5, 0, 0, -8);
        near("2.5 and -2.5: 3 and -2", 5 * 5, 0, 0, 256, 8, 5, 0, 0, -8);
        near("2.5 and 2.5", 0, 0, 0, 256, 8, 5, 0, 0, 8);
        near("x: 2.5", 3 * 3, 0, 0, 8, 256, 0, 5, 0, 0);
        near("x: -2.5", 2 * 2, 0, 0, -8, 256, 0, 5, 0, 0);
        near("2.1875, to 2", 2 * 2, 0, 0, 256, 7, 5, 0, 0, 0);
        near("-2.8125, to -3", 3 * 3, 0, 0, 256, -9, 5, 0, 0, 0);
    }

    /** Nearness: "Two tracks": new ones and ones that coast have it too. */
    private static void nearestOfAllStates() {
        CoastRadar r = Checks.radar(10, 0);
        Checks.sweep(r, 1, 0, 0, 0, 100);
        Checks.equal("promise 15: both new", r.nearest(0, 1), 1600 * 1600);
        Checks.sweep(r, 1, 0, 0, 0, 100);
        Checks.sweep(r, 1, 0, 0, 0, 100);
        r.sweep(1);
        Checks.equal("set up: both coast", r.track(0, 4) + r.track(1, 4), 4);
        Checks.equal("promise 15: both coast", r.nearest(0, 1), 1600 * 1600);
    }

    /** Promise 15: the farthest tracks, whose square is more than an int holds; and the greatest speeds. */
    private static void farthestOfAll() {
        CoastRadar r = new CoastRadar();
        r.addStation(-9999, -9999, 10);
        r.addStation(9999, 9999, 10);
        r.report(0, -9999, -9999, 9);
        r.report(1, 9999, 9999, 9);
        r.sweep(1);
        Checks.equal("promise 15: the corners of all", r.nearest(0, 1), 2L * 319968 * 319968);
        CoastRadar s = Checks.radar(2000, 16);
        Checks.sweep(s, 1, 0, 0, 9000, 0);
        Checks.sweep(s, 1, 64, 0, 8936, 0);
        Checks.equal("set up: the greatest speed", s.track(0, 2), 16384);
        Checks.equal("promise 15: 8872 places, by 128 each tick: 40 are left", s.nearest(0, 1), 640 * 640);
        Checks.sweep(s, 60, 64 + 3840, 0, 8936 - 3840, 0);
        s.sweep(60);
        Checks.equal("promise 15: they have passed each other", s.nearest(0, 1), 16L * 16 * 6488 * 6488);
    }

    /** Promise 16: IllegalArgumentException "if limit is not 0 to 5000". */
    private static void limitOfADanger() {
        CoastRadar r = still(5, 5, 5, 5);
        for (int wrong : new int[] {-1, 5001, MIN, MAX}) {
            Checks.refuses(r, "promise 16: the limit " + wrong, Checks.ARGUMENT, () -> r.dangers(wrong));
        }
        Checks.equal("promise 16: the limit 0", r.dangers(0), 1);
        Checks.equal("promise 16: the limit 5000", r.dangers(5000), 1);
    }

    private static int dangers(int limit, int... rows) {
        return Checks.firm(rows).dangers(limit);
    }

    /** Promise 16: "come nearer to each other than this limit, or as near (by the least square)". */
    private static void asNearAsTheLimit() {
        Checks.equal("promise 16: 0 away", dangers(0, 5, 5, 0, 0, 5, 5, 0, 0), 1);
        Checks.equal("promise 16: 1 away, limit 0", dangers(0, 5, 5, 0, 0, 6, 5, 0, 0), 0);
        Checks.equal("promise 16: 1 away, limit 1", dangers(1, 5, 5, 0, 0, 6, 5, 0, 0), 1);
        Checks.equal("promise 16: 3, 4 away, limit 5", dangers(5, 5, 5, 0, 0, 8, 9, 0, 0), 1);
        Checks.equal("promise 16: 3, 4 away, limit 4", dangers(4, 5, 5, 0, 0, 8, 9, 0, 0), 0);
        Checks.equal("promise 16: 3, 5 away, limit 5", dangers(5, 5, 5, 0, 0, 8, 10, 0, 0), 0);
        Checks.equal("promise 16: 5000 away", dangers(5000, -2000, -1500, 0, 0, 2000, 1500, 0, 0), 1);
        Checks.equal("promise 16: 5000 away, limit 4999", dangers(4999, -2000, -1500, 0, 0, 2000, 1500, 0, 0), 0);
        Checks.equal("promise 16: 5000 and more away", dangers(5000, -2000, -1500, 0, 0, 2000, 1501, 0, 0), 0);
        // In 5 ticks they are at the same x; by y the first one is -0.94 or 0.94 sixteenths on, rounded to -1 and 1.
        Checks.equal("promise 16: 16 sixteenths away then", dangers(1, 0, 0, 256, 0, 5, 1, 0, 0), 1);
        Checks.equal("promise 16: 17 sixteenths away then", dangers(1, 0, 0, 256, -3, 5, 1, 0, 0), 0);
        Checks.equal("promise 16: 15 sixteenths away then", dangers(1, 0, 0, 256, 3, 5, 1, 0, 0), 1);
        Checks.equal("promise 16: 300 ticks from now", dangers(0, 0, 0, 256, 0, 300, 0, 0, 0), 1);
        Checks.equal("promise 16: 301 ticks from now", dangers(0, 0, 0, 256, 0, 301, 0, 0, 0), 0);
    }

    /** Promise 16, the same: 16 sixteenths away by x, and one by y, is farther than one place. */
    private static void asNearAsTheLimitBySixteenths() {
        CoastRadar r = Checks.firm(0, 0, 0, 1, 1, 0, 0, 0);
        Checks.equal("promise 16: just a place apart", r.dangers(1), 1);
        r.tune(0, 2000, 0, 0);
        Checks.sweep(r, 16, 0, 0, 1, 0);
        Checks.equal("promise 15: a sixteenth more by y", r.nearest(0, 1), 16 * 16 + 1);
        Checks.equal("promise 16: farther than the limit", r.dangers(1), 0);
        Checks.equal("promise 16: nearer than the next one", r.dangers(2), 1);
    }

    /** Promise 16: "how many pairs of firm tracks". */
    private static void dangersOfFirmOnes() {
        CoastRadar none = new CoastRadar();
        Checks.equal("promise 16: no track", none.dangers(5000), 0);
        Checks.equal("promise 16: one track is no pair", still(5, 5).dangers(5000), 0);
        CoastRadar r = Checks.radar(10, 0);
        for (int i = 0; i < 2; i++) {
            Checks.sweep(r, 1, 5, 5, 5, 5);
            Checks.equal("promise 16: both new", r.dangers(5000), 0);
        }
        Checks.sweep(r, 1, 5, 5, 5, 5);
        Checks.equal("promise 16: both firm", r.dangers(0), 1);
        Checks.sweep(r, 1, 5, 5);
        Checks.equal("promise 16: one coasts", r.dangers(5000), 0);
        Checks.sweep(r, 1, 5, 5, 5, 5);
        Checks.equal("promise 16: firm again", r.dangers(0), 1);
        r.sweep(1);
        Checks.equal("promise 16: both coast", r.dangers(5000), 0);
    }

    /** Promise 16 with as many tracks as there can be. */
    private static void pairsOfTen() {
        int[] ten = new int[20];
        for (int i = 0; i < 10; i++) {
            ten[2 * i] = 100 * i;
        }
        CoastRadar r = still(ten);
        int[][] rows = {{0, 0}, {99, 0}, {100, 9}, {199, 9}, {200, 17}, {899, 44}, {900, 45}, {5000, 45}};
        for (int[] row : rows) {
            Checks.equal("promise 16: of 45 pairs, limit " + row[0], r.dangers(row[0]), row[1]);
        }
    }

    /** Promise 17: IndexOutOfBoundsException "if there is no such area". */
    private static void noSuchArea() {
        CoastRadar r = new CoastRadar();
        r.addPlace(false, 0, 0, 5, 5);
        for (int areas = 0; areas <= 6; areas++) {
            for (int wrong : new int[] {-1, areas, 6, MIN, MAX}) {
                Checks.refuses(r, "promise 17: area " + wrong + " of " + areas, Checks.BOUNDS, () -> r.inside(wrong));
            }
            if (areas > 0) {
                Checks.equal("promise 17: the last area", r.inside(areas - 1), 0);
            }
            if (areas < 6) {
                r.addPlace(true, 0, 0, 5, 5);
            }
        }
    }

    /** Promise 17: "the set of the names, of those below 31". */
    private static void namesBelow31() {
        CoastRadar r = Checks.radar(10, 0);
        r.addPlace(true, -100, 4900, 1000, 5100);
        for (int round = 0; round < 3; round++) {
            int blips = round < 2 ? 10 : 9;
            for (int i = 0; i < blips; i++) {
                r.report(0, 100 * i, 1000 * round, 99);
            }
            Checks.empty(r, 3, 1);
        }
        Checks.equal("set up: names that were given", r.count(10), 29);
        for (int i = 0; i < 3; i++) {
            Checks.sweep(r, 1, 0, 5000, 100, 5000, 200, 5000, 300, 5000);
        }
        Checks.text("set up: names", Checks.names(r), "29 30 31 32");
        Checks.equal("promise 17: 29 and 30", r.inside(0), (1 << 29) + (1 << 30));
        Checks.text("step 8: all enter", Checks.eventsOf(r, 11), "1:29:-1 1:30:-1 1:31:-1 1:32:-1 7:29:0 7:30:0 7:31:0 7:32:0");
        Checks.sweep(r, 1, 100, 5000, 200, 5000, 300, 5000);
        Checks.equal("promise 17: 30 alone", r.inside(0), 1 << 30);
        Checks.sweep(r, 1, 200, 5000, 300, 5000);
        Checks.equal("promise 17: 31 and 32 are not told", r.inside(0), 0);
    }

    /** Promise 17: "of the firm tracks that are in it (as the sum of the powers 2^k of their names k)". */
    private static void insideFirmOnes() {
        CoastRadar r = Checks.radar(10, 0);
        r.addPlace(true, -5, -5, 905, 5);
        int[] ten = new int[20];
        for (int i = 0; i < 10; i++) {
            ten[2 * i] = 100 * i;
        }
        Checks.sweep(r, 1, ten);
        Checks.sweep(r, 1, ten);
        Checks.equal("promise 17: new ones", r.inside(0), 0);
        Checks.sweep(r, 1, ten);
        Checks.equal("promise 17: all ten", r.inside(0), 1023);
        Checks.sweep(r, 1, 0, 0, 900, 0);
        Checks.equal("promise 17: the first one and the last one", r.inside(0), 1 + 512);
        r.sweep(1);
        Checks.equal("promise 17: all coast", r.inside(0), 0);
    }

    /** Promise 18: IndexOutOfBoundsException "if there is no such event". */
    private static void noSuchEvent() {
        CoastRadar r = Checks.radar(10, 0);
        for (int events = 0; events <= 3; events++) {
            for (int wrong : new int[] {-1, events, 119, 120, MIN, MAX}) {
                Checks.refuses(r, "promise 18: event " + wrong + " of " + events, Checks.BOUNDS, () -> r.event(wrong, 0));
            }
            Checks.sweep(r, 1, 100 * events, 0);
            Checks.equal("promise 18: the last one", r.event(events, 2), events);
        }
    }

    /** Promise 18: IndexOutOfBoundsException if "what is not 0 to 3". */
    private static void whatOfAnEvent() {
        CoastRadar r = Checks.radar(10, 0);
        r.sweep(1);
        Checks.sweep(r, 1, 5, 5);
        int[] due = {1, 0, 0, -1};
        for (int what = 0; what <= 3; what++) {
            Checks.equal("promise 18: what " + what, r.event(0, what), due[what]);
        }
        for (int wrong : new int[] {-1, 4, MIN, MAX}) {
            Checks.refuses(r, "promise 18: what " + wrong, Checks.BOUNDS, () -> r.event(0, wrong));
            Checks.refuses(r, "promise 18: what " + wrong + " of no event", Checks.BOUNDS, () -> r.event(1, wrong));
        }
    }

    /** Events: "The latest 120 are kept." Each sweep makes as many events as it has blips: the names that begin. */
    private static CoastRadar events(int number) {
        CoastRadar r = Checks.radar(1, 0);
        for (int i = 0; i < number; i += 10) {
            for (int k = i; k < Math.min(number, i + 10); k++) {
                Checks.equal("set up: a blip", r.report(0, 50 * (k - i), 500 * (k / 10 % 20), 99), 0);
            }
            Checks.empty(r, 3, 1);
        }
        return r;
    }

    /** Events, the same: 119, 120, 121 and 240 of them. */
    private static void latest120() {
        for (int number : new int[] {1, 119, 120, 121, 239, 240, 241}) {
            CoastRadar r = events(number);
            int kept = Math.min(120, number);
            Checks.equal("promise 10: events of all sweeps", r.count(9), number);
            Checks.equal("promise 18: the oldest one of " + number, r.event(0, 2), number - kept);
            Checks.equal("promise 18: its sweep", r.event(0, 0), (number - kept) / 10 * 3);
            Checks.equal("promise 18: the latest one of " + number, r.event(kept - 1, 2), number - 1);
            Checks.equal("promise 18: its sweep", r.event(kept - 1, 0), (number - 1) / 10 * 3);
            Checks.equal("promise 18: one between", r.event(kept / 2, 2), number - kept + kept / 2);
            Checks.refuses(r, "promise 18: one behind the latest one", Checks.BOUNDS, () -> r.event(kept, 0));
            Checks.refuses(r, "promise 18: event 120", Checks.BOUNDS, () -> r.event(120, 0));
            Checks.refuses(r, "promise 18: event -1", Checks.BOUNDS, () -> r.event(-1, 0));
        }
    }

    /** Events: "An event has a sweep, numbered from 0". */
    private static void sweepOfAnEvent() {
        CoastRadar r = Checks.radar(10, 0);
        Checks.sweep(r, 60, 5, 5);
        Checks.equal("promise 18: the first sweep", r.event(0, 0), 0);
        Checks.sweep(r, 60, 500, 5);
        Checks.equal("promise 18: the second sweep", r.event(1, 0), 1);
        Checks.empty(r, 7, 60);
        Checks.sweep(r, 60, 5, 500);
        Checks.equal("promise 18: a sweep without events counts", r.event(2, 0), 9);
    }

    /** Events: "the name, and what is told above, else -1". */
    private static void otherNumbers() {
        CoastRadar r = Checks.radar(10, 0);
        r.addPlace(true, 100, -5, 200, 5);
        r.addPlace(true, -5, -5, 5, 5);
        for (int i = 0; i < 3; i++) {
            Checks.sweep(r, 1, 0, 0);
        }
        Checks.sweep(r, 1, 0, 6);
        r.sweep(1);
        Checks.sweep(r, 1, 0, 6);
        Checks.text("events: -1, or the area", Checks.events(r), "0:0:0:-1 2:1:0:-1 2:7:0:1 3:8:0:1 4:2:0:-1 5:4:0:-1");
        Checks.empty(r, 5, 1);
        for (int i = 0; i < 3; i++) {
            Checks.sweep(r, 1, 0, 6, 0, 6);
        }
        Checks.text("events: the name that it had", Checks.eventsOf(r, 13), "1:1:-1 1:2:-1 5:0:1 6:0:2");
    }

    /** Events: "They are noted in this order": by steps, in step 3 by names, whatever their kinds are. */
    private static void allKindsInOrder() {
        CoastRadar r = Checks.radar(10, 0);
        r.addPlace(true, -50, -50, 950, 50);
        // Sweep 7: 0 is firm again, 1 is lost, 2 coasts, 3 becomes firm and is known as 1, 4 and 5 begin.
        for (int i = 0; i < 3; i++) {
            Checks.sweep(r, 1, 0, 0, 100, 0, 200, 0);
        }
        Checks.sweep(r, 1, 0, 0, 200, 0);
        Checks.sweep(r, 1, 0, 0, 200, 0);
        Checks.sweep(r, 1, 0, 0, 200, 0, 500, 0);
        Checks.sweep(r, 1, 200, 0, 500, 0);
        r.tune(0, 100, 16, 0);
        Checks.sweep(r, 1, 0, 0, 500, 0, 2000, 0, 2500, 0);
        Checks.text("events: all steps", Checks.eventsOf(r, 7),
            "4:0:-1 3:1:-1 2:2:-1 1:3:-1 0:4:-1 0:5:-1 5:1:3 7:0:0 7:1:0");
    }
}
