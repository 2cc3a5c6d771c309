/** The boundaries that the steps 1 to 5 of a sweep and the promise 9 name: a test for each such sentence. */
final class EdgeSweepTest {
    public static void main(String[] args) {
        ticksOfASweep();
        fiveHundredSweeps();
        sweepOfNothing();
        roundedWay();
        wayOfTheLimitedSpeed();
        squareOfTheGate();
        gateIsAtFirst300();
        gateBySixteenths();
        gateByMisses();
        eachOneToAtMostOne();
        asManyAsPossible();
        leastSum();
        smallestNumber();
        noneIsGreaterThanAll();
        secondTrackThen();
        tenTracksAndTenBlips();
        sharesAreAtFirst8And4();
        leastAndGreatestShares();
        roundedPlace();
        roundedSpeed();
        speedAtItsLimits();
        speedBesideItsLimits();
        joinedThreeTimes();
        joinedThreeTimesWithMisses();
        newOneWithTwoMisses();
        missesOneBehindTheOther();
        firmOneCoasts();
        coastsWithFiveMisses();
        firmAgain();
        notJoined();
        levelAtMost60();
        levelAtLeast0();
        levelInTheirOrder();
        fieldWhereItWaits();
        fewerThanTen();
        roomOfThoseThatEnd();
        howATrackBegins();
        howATrackBeginsBehindAnother();
        namesInOrder();
        Checks.end("EdgeSweepTest");
    }

    /** Terms: "A sweep, dt ticks (1 to 60) behind the one ahead". */
    private static void ticksOfASweep() {
        CoastRadar r = Checks.stations(1);
        r.report(0, 5, 5, 5);
        for (int wrong : new int[] {0, 61, -1, -60, Integer.MIN_VALUE, Integer.MAX_VALUE}) {
            Checks.refuses(r, "promise 9: sweep(" + wrong + ")", Checks.ARGUMENT, () -> r.sweep(wrong));
        }
        Checks.equal("promise 10: the blip still waits", r.count(3), 1);
        r.sweep(1);
        Checks.equal("promise 10: ticks behind sweep(1)", r.count(8), 1);
        r.sweep(60);
        Checks.equal("promise 10: ticks behind sweep(60)", r.count(8), 61);
        Checks.equal("promise 10: sweeps", r.count(7), 2);
    }

    /** Promise 9: IllegalStateException "if there were 500 sweeps". */
    private static void fiveHundredSweeps() {
        CoastRadar r = Checks.stations(1);
        Checks.empty(r, 499, 60);
        r.report(0, 5, 5, 5);
        Checks.equal("promise 9: sweep 499 is the last one", r.sweep(60), 0);
        Checks.equal("promise 10: sweeps", r.count(7), 500);
        Checks.equal("promise 18: its number", r.event(0, 0), 499);
        Checks.refuses(r, "promise 9: sweep 500", Checks.STATE, () -> r.sweep(60));
        Checks.equal("promise 10: ticks", r.count(8), 30000);
        Checks.equal("promise 8: the blip of the latest sweep", r.blip(0, 4), 0);
    }

    /** Promise 9: "Returns how many blips were joined": with no track, with no blip, with neither. */
    private static void sweepOfNothing() {
        CoastRadar r = Checks.stations(1);
        Checks.equal("promise 9: neither", r.sweep(1), 0);
        r.report(0, 5, 5, 50);
        Checks.equal("promise 9: no track", r.sweep(1), 0);
        Checks.equal("promise 9: no blip", r.sweep(1), 0);
        r.report(0, 5, 5, 50);
        Checks.equal("promise 9: one of both", r.sweep(1), 1);
    }

    /** Step 1: "its place and the rounded speed * dt / 16"; "the greater one, if there are two", above and below 0. */
    private static void roundedWay() {
        int[][] rows = {{8, 1, 1}, {-8, 1, 0}, {7, 1, 0}, {-7, 1, 0}, {9, 1, 1}, {-9, 1, -1}, {24, 1, 2}, {-24, 1, -1}, {25, 1, 2}, {-25, 1, -2},
            {1, 8, 1}, {-1, 8, 0}, {1, 7, 0}, {-1, 9, -1}, {2, 60, 8}, {-2, 60, -7}, {1, 60, 4}, {-1, 60, -4}, {0, 60, 0}, {16, 3, 3}, {-16, 3, -3},
            {2000, 60, 7500}, {-2000, 60, -7500}, {1999, 4, 500}, {-1999, 4, -500}, {1998, 4, 500}, {-1998, 4, -499}};
        for (int[] row : rows) {
            CoastRadar r = Checks.moving(0, 0, row[0], 0);
            r.sweep(row[1]);
            Checks.equal("step 1: x, speed " + row[0] + ", ticks " + row[1], r.track(0, 0), row[2]);
            Checks.equal("step 1: y stays", r.track(0, 1), 0);
            CoastRadar s = Checks.moving(-3, 3, 0, row[0]);
            s.sweep(row[1]);
            Checks.equal("step 1: y, speed " + row[0] + ", ticks " + row[1], s.track(0, 1), 48 + row[2]);
            Checks.equal("step 1: x stays", s.track(0, 0), -48);
        }
    }

    /** Step 1 with the greatest speed and the most ticks. */
    private static void wayOfTheLimitedSpeed() {
        CoastRadar r = Checks.radar(2000, 16);
        Checks.sweep(r, 1, 0, 0);
        Checks.sweep(r, 1, 1000, -1000);
        r.sweep(60);
        Checks.equal("step 1: x", r.track(0, 0), 16000 + 61440);
        Checks.equal("step 1: y", r.track(0, 1), -16000 - 61440);
    }

    /** How many blips a track at 0, 0 takes that is reported at a place. */
    private static int takes(int gate, int x, int y) {
        CoastRadar r = Checks.radar(gate, 0);
        Checks.sweep(r, 1, 0, 0);
        return Checks.sweep(r, 1, x, y);
    }

    /** Step 2: "is at most that of 16 * (gate + 40 * misses of the track); the gate is 1 to 2000". */
    private static void squareOfTheGate() {
        int[][] rows = {{1, 0, 0, 1}, {1, 1, 0, 1}, {1, 0, -1, 1}, {1, 1, 1, 0}, {1, -2, 0, 0}, {5, 3, 4, 1}, {5, 4, 4, 0}, {5, -3, -4, 1}, {5, -3, -5, 0},
            {300, 180, 240, 1}, {300, 180, 241, 0}, {2000, 2000, 0, 1}, {2000, 2001, 0, 0}, {2000, 2000, 1, 0}, {2000, -1200, -1600, 1},
            {2000, -1200, -1601, 0}, {1999, 2000, 0, 0}};
        for (int[] row : rows) {
            Checks.equal("step 2: gate " + row[0] + ", a blip at " + row[1] + ", " + row[2], takes(row[0], row[1], row[2]), row[3]);
        }
    }

    /** Step 2: the gate is "at first 300". */
    private static void gateIsAtFirst300() {
        for (int more = 0; more <= 1; more++) {
            CoastRadar r = Checks.stations(1);
            Checks.sweep(r, 1, 0, 0);
            Checks.equal("step 2: at first, " + (300 + more) + " away", Checks.sweep(r, 1, 300 + more, 0), 1 - more);
        }
    }

    /** Step 2: "the square of 16 times its place and the expected one": a sixteenth counts. */
    private static void gateBySixteenths() {
        int[][] rows = {{16, 10, 0, 1}, {15, 10, 0, 1}, {-1, 10, 0, 0}, {1, 10, 0, 1}, {1, -10, 0, 0}, {-1, -10, 0, 1}, {0, 10, 0, 1}, {0, -10, 0, 1},
            {0, 6, 8, 1}, {1, 6, 8, 1}, {-1, 6, 8, 0}, {1, -6, -8, 0}, {-1, -6, 8, 1}};
        for (int[] row : rows) {
            CoastRadar r = Checks.moving(0, 0, row[0], 0);
            r.tune(0, 10, 0, 0);
            Checks.equal("step 2: gate 10, expected " + row[0] + " sixteenths on, a blip at " + row[1] + ", " + row[2],
                Checks.sweep(r, 16, row[1], row[2]), row[3]);
        }
        for (int aside = -1; aside <= 1; aside++) {
            CoastRadar r = Checks.moving(0, 0, 0, aside);
            r.tune(0, 10, 0, 0);
            Checks.equal("step 2: gate 10, 10 away by x, sixteenths by y: " + aside, Checks.sweep(r, 16, 10, 0), aside == 0 ? 1 : 0);
        }
    }

    /** Step 2: "gate + 40 * misses of the track": of 0 to 4 misses, ahead of this sweep. */
    private static void gateByMisses() {
        for (int gate = 1; gate <= 2000; gate += 1999) {
            for (int misses = 0; misses <= 4; misses++) {
                for (int more = 0; more <= 1; more++) {
                    CoastRadar r = Checks.firm(0, 0, 0, 0);
                    r.tune(0, gate, 16, 0);
                    Checks.empty(r, misses, 1);
                    Checks.equal("step 2: gate " + gate + ", misses " + misses + ", more " + more,
                        Checks.sweep(r, 1, 0, -gate - 40 * misses - more), 1 - more);
                }
            }
        }
        for (int more = 0; more <= 1; more++) {
            CoastRadar r = Checks.radar(7, 0);
            Checks.sweep(r, 1, 0, 0);
            r.sweep(1);
            Checks.equal("step 2: a new one that has missed once, more " + more, Checks.sweep(r, 1, 47 + more, 0), 1 - more);
        }
    }

    /** Step 2: "each one to at most one, each track with at most one". */
    private static void eachOneToAtMostOne() {
        CoastRadar r = Checks.radar(100, 0);
        Checks.sweep(r, 1, 0, 0);
        Checks.equal("step 2: one track, three blips at its place", Checks.sweep(r, 1, 0, 0, 0, 0, 0, 0), 1);
        Checks.text("step 2: the first one", Checks.joins(r, 3), "0 1 2");
        CoastRadar s = Checks.radar(100, 0);
        Checks.sweep(s, 1, 0, 0, 0, 0, 0, 0);
        Checks.equal("step 2: three tracks, one blip at their place", Checks.sweep(s, 1, 0, 0), 1);
        Checks.equal("step 2: the first one has it", s.track(0, 5), 2);
        Checks.equal("step 2: the second one has missed", s.track(1, 6), 1);
        Checks.equal("step 2: the third one has missed", s.track(2, 6), 1);
    }

    /** Step 2: "It is done so that as many as possible are joined". */
    private static void asManyAsPossible() {
        CoastRadar r = Checks.radar(100, 0);
        Checks.sweep(r, 1, 0, 0, 100, 0);
        Checks.equal("step 2: two far ones rather than a near one", Checks.sweep(r, 1, 0, 0, -100, 0), 2);
        Checks.text("step 2: the track 0 has the far one", Checks.joins(r, 2), "1 0");
        CoastRadar s = Checks.radar(100, 0);
        Checks.sweep(s, 1, 0, 0, 100, 0);
        Checks.equal("step 2: one place too far", Checks.sweep(s, 1, 0, 0, -101, 0), 1);
        Checks.text("step 2: the track 0 has the near one", Checks.joins(s, 2), "0 2");
        CoastRadar t = Checks.radar(10, 0);
        Checks.sweep(t, 1, 0, 0, 10, 0, 20, 0, 30, 0, 40, 0);
        Checks.equal("step 2: a chain, each one by a place", Checks.sweep(t, 1, 0, 0, 10, 0, 20, 0, 30, 0, -10, 0), 5);
        Checks.text("step 2: each one has the next", Checks.joins(t, 5), "1 2 3 4 0");
        CoastRadar u = Checks.radar(100, 0);
        Checks.sweep(u, 1, 0, 0, 5000, 0, 150, 0);
        Checks.equal("step 2: a track between has none", Checks.sweep(u, 1, 60, 0, -80, 0), 2);
        Checks.text("step 2: the first one leaves the near blip to the last one", Checks.joins(u, 2), "2 0");
    }

    /** Step 2: "of all ways that the sum of these squares is least". */
    private static void leastSum() {
        CoastRadar r = Checks.radar(300, 0);
        Checks.sweep(r, 1, 0, 0, 100, 0);
        Checks.equal("step 2: both", Checks.sweep(r, 1, 101, 0, 1, 0), 2);
        Checks.text("step 2: each the near one", Checks.joins(r, 2), "1 0");
        CoastRadar s = Checks.radar(300, 0);
        Checks.sweep(s, 1, 0, 0, 100, 0);
        Checks.equal("step 2: both", Checks.sweep(s, 1, 199, 0, 100, 0), 2);
        Checks.text("step 2: 100 and 99, not 0 and 199", Checks.joins(s, 2), "1 0");
        // A sixteenth makes the difference: the squares of 160 and 160, or of 159 and 161.
        CoastRadar t = Checks.moving(0, 0, 1, 0, 20, 0, 0, 0);
        t.tune(0, 300, 0, 0);
        Checks.sweep(t, 16, 10, 10, 10, -10);
        Checks.text("step 2: equal sums", Checks.joins(t, 2), "0 1");
        CoastRadar u = Checks.moving(0, 0, 0, -1, 20, 0, 0, 0);
        u.tune(0, 300, 0, 0);
        Checks.sweep(u, 16, 10, 10, 10, -10);
        Checks.text("step 2: the track 0 is nearer to the second blip", Checks.joins(u, 2), "1 0");
        CoastRadar v = Checks.moving(0, 0, 0, 1, 20, 0, 0, 0);
        v.tune(0, 300, 0, 0);
        Checks.sweep(v, 16, 10, 10, 10, -10);
        Checks.text("step 2: the track 0 is nearer to the first blip", Checks.joins(v, 2), "0 1");
    }

    /** Step 2: "of these that the first track (in ascending order of names) has the blip with the smallest number". */
    private static void smallestNumber() {
        CoastRadar r = Checks.radar(300, 0);
        Checks.sweep(r, 1, 0, 0);
        Checks.sweep(r, 1, 30, 40, 50, 0, 0, -50, -40, 30);
        Checks.text("step 2: of four as near the first one", Checks.joins(r, 4), "0 1 2 3");
        CoastRadar s = Checks.radar(300, 0);
        Checks.sweep(s, 1, 0, 0);
        Checks.sweep(s, 1, 30, 41, 50, 0, 0, -50, -40, 30);
        Checks.text("step 2: of three as near the first one", Checks.joins(s, 4), "1 0 2 3");
        CoastRadar t = Checks.radar(300, 0);
        Checks.sweep(t, 1, 100, 100, 0, 0);
        Checks.sweep(t, 1, 100, 0, 0, 100);
        Checks.text("step 2: the track 0 has the blip 0", Checks.joins(t, 2), "0 1");
    }

    /** Step 2: "none being greater than all": the first track is joined rather than the second one. */
    private static void noneIsGreaterThanAll() {
        CoastRadar r = Checks.radar(300, 0);
        Checks.sweep(r, 1, 50, 0, -50, 0);
        Checks.sweep(r, 1, 0, 0);
        Checks.text("step 2: of two as near the first one", Checks.joins(r, 1), "0");
        CoastRadar s = Checks.radar(300, 0);
        Checks.sweep(s, 1, 50, 0, -50, 0, 0, 50);
        Checks.equal("step 2: two blips for three tracks", Checks.sweep(s, 1, 0, 0, 0, 0), 2);
        Checks.text("step 2: the first two of them", Checks.joins(s, 2), "0 1");
        // Two ways have the same sum: the track 1 with the blip 0, and 0 or 2 with the blip 1.
        CoastRadar t = Checks.radar(50, 0);
        Checks.sweep(t, 1, 0, 0, 100, 0, 60, 80);
        Checks.equal("step 2: two joined", Checks.sweep(t, 1, 100, 40, 30, 40), 2);
        Checks.text("step 2: the first track has the last blip rather than none", Checks.joins(t, 2), "1 0");
    }

    /** Step 2: "then the second one, and so on". */
    private static void secondTrackThen() {
        CoastRadar r = Checks.radar(300, 0);
        Checks.sweep(r, 1, 7, 7, 7, 7, 7, 7);
        Checks.sweep(r, 1, 7, 7, 7, 7, 7, 7);
        Checks.text("step 2: three at one place", Checks.joins(r, 3), "0 1 2");
        CoastRadar s = Checks.radar(60, 0);
        Checks.sweep(s, 1, -1000, 0, 0, 0, 100, 0);
        Checks.sweep(s, 1, 50, 30, 50, -30, -1000, 0);
        Checks.text("step 2: the first track has no choice, the second one has the smallest number", Checks.joins(s, 3), "1 2 0");
        CoastRadar t = Checks.radar(60, 0);
        Checks.sweep(t, 1, 0, 0, 0, 0);
        Checks.sweep(t, 1, 30, 40, 0, 50, 50, 0);
        Checks.text("step 2: the third blip is left", Checks.joins(t, 3), "0 1 2");
    }

    /** Step 2 with as many tracks and blips as there can be. */
    private static void tenTracksAndTenBlips() {
        CoastRadar r = Checks.radar(2000, 0);
        int[] places = new int[20];
        for (int i = 0; i < 10; i++) {
            places[2 * i] = 10 * i;
        }
        Checks.sweep(r, 1, places);
        Checks.equal("step 2: all are joined", Checks.sweep(r, 1, places), 10);
        Checks.text("step 2: each to its own", Checks.joins(r, 10), "0 1 2 3 4 5 6 7 8 9");
        int[] turned = new int[20];
        for (int i = 0; i < 10; i++) {
            turned[2 * i] = 90 - 10 * i;
        }
        Checks.equal("step 2: all are joined", Checks.sweep(r, 1, turned), 10);
        Checks.text("step 2: each to its own, in the other order", Checks.joins(r, 10), "9 8 7 6 5 4 3 2 1 0");
    }

    /** Step 3: "a and b are 0 to 16, at first 8 and 4". */
    private static void sharesAreAtFirst8And4() {
        CoastRadar r = Checks.stations(1);
        Checks.sweep(r, 1, 0, 0);
        Checks.sweep(r, 4, 10, -20);
        Checks.equal("step 3: half of the way, x", r.track(0, 0), 80);
        Checks.equal("step 3: half of the way, y", r.track(0, 1), -160);
        Checks.equal("step 3: 4 parts by 4 ticks, x", r.track(0, 2), 160);
        Checks.equal("step 3: 4 parts by 4 ticks, y", r.track(0, 3), -320);
    }

    /** Step 3: a and b at 0 and at 16. */
    private static void leastAndGreatestShares() {
        int[][] rows = {{0, 0, 0, 0}, {16, 0, 160, 0}, {0, 16, 0, 640}, {16, 16, 160, 640}, {1, 1, 10, 40}, {15, 15, 150, 600}};
        for (int[] row : rows) {
            CoastRadar r = Checks.stations(1);
            r.tune(0, 300, row[0], row[1]);
            Checks.sweep(r, 1, 0, 0);
            Checks.equal("step 3: it is joined", Checks.sweep(r, 4, 10, -10), 1);
            Checks.equal("step 3: x, a = " + row[0], r.track(0, 0), row[2]);
            Checks.equal("step 3: y, a = " + row[0], r.track(0, 1), -row[2]);
            Checks.equal("step 3: speed x, b = " + row[1], r.track(0, 2), row[3]);
            Checks.equal("step 3: speed y, b = " + row[1], r.track(0, 3), -row[3]);
        }
    }

    /** Step 3: "the expected one and the rounded r * a / 16"; the greater one of two, above and below 0. */
    private static void roundedPlace() {
        int[][] rows = {{1, 8, 1}, {-1, 8, 0}, {3, 8, 2}, {-3, 8, -1}, {8, 1, 1}, {-8, 1, 0}, {7, 1, 0}, {-7, 1, 0}, {9, 1, 1}, {-9, 1, -1},
            {24, 1, 2}, {-24, 1, -1}, {1, 7, 0}, {-1, 7, 0}, {1, 9, 1}, {-1, 9, -1}, {5, 16, 5}, {-5, 16, -5}, {5, 0, 0}, {-5, 0, 0}, {0, 8, 0}};
        for (int[] row : rows) {
            // In 16 ticks the track goes -r, so that a blip where it was is r away.
            CoastRadar r = Checks.moving(0, 0, -row[0], 0);
            r.tune(0, 2000, row[1], 0);
            Checks.sweep(r, 16, 0, 0);
            Checks.equal("step 3: x, r = " + row[0] + ", a = " + row[1], r.track(0, 0), -row[0] + row[2]);
            CoastRadar s = Checks.moving(0, 0, 0, -row[0]);
            s.tune(0, 2000, row[1], 0);
            Checks.sweep(s, 16, 0, 0);
            Checks.equal("step 3: y, r = " + row[0] + ", a = " + row[1], s.track(0, 1), -row[0] + row[2]);
        }
    }

    /** Step 3: "its speed the one before and the rounded r * b / dt"; the greater one of two, above and below 0. */
    private static void roundedSpeed() {
        int[][] rows = {{1, 1, 32, 1}, {-1, 1, 32, 0}, {1, 1, 33, 0}, {-1, 1, 33, 0}, {1, 1, 31, 1}, {-1, 1, 31, -1}, {3, 1, 32, 2}, {-3, 1, 32, -1},
            {1, 1, 60, 0}, {-1, 1, 60, 0}, {1, 5, 32, 3}, {-1, 5, 32, -2}, {1, 16, 1, 256}, {-1, 16, 1, -256}, {1, 15, 60, 4}, {-1, 15, 60, -4},
            {1, 1, 3, 5}, {-1, 1, 3, -5}, {1, 0, 1, 0}, {-1, 0, 1, 0}, {5, 3, 32, 8}, {-5, 3, 32, -7}};
        for (int[] row : rows) {
            CoastRadar r = Checks.stations(1);
            r.tune(0, 300, 8, row[1]);
            Checks.sweep(r, 1, 0, 0);
            Checks.sweep(r, row[2], row[0], -row[0]);
            String what = "step 3: r = 16 * " + row[0] + ", b = " + row[1] + ", ticks " + row[2];
            Checks.equal(what + ", speed x", r.track(0, 2), row[3]);
            CoastRadar s = Checks.stations(1);
            s.tune(0, 300, 8, row[1]);
            Checks.sweep(s, 1, 0, 0);
            Checks.sweep(s, row[2], -row[0], row[0]);
            Checks.equal(what + ", speed y", s.track(0, 3), row[3]);
        }
    }

    /** Step 3: "but at least -16384 and at most 16384". */
    private static void speedAtItsLimits() {
        int[][] rows = {{63, 16128}, {64, 16384}, {65, 16384}, {1400, 16384}, {-63, -16128}, {-64, -16384}, {-65, -16384}, {-1400, -16384}};
        for (int[] row : rows) {
            CoastRadar r = Checks.radar(2000, 16);
            Checks.sweep(r, 1, 0, 0);
            Checks.sweep(r, 1, row[0], -row[0]);
            Checks.equal("step 3: 256 * " + row[0] + ", x", r.track(0, 2), row[1]);
            Checks.equal("step 3: 256 * " + row[0] + ", y", r.track(0, 3), -row[1]);
        }
    }

    /** Step 3, the same, by 1: the sum is limited, not what is added. */
    private static void speedBesideItsLimits() {
        int[][] rows = {{1, 16384}, {2, 16384}, {0, 16384}, {-1, 16383}, {-2, 16382}};
        for (int[] row : rows) {
            for (int sign = -1; sign <= 1; sign += 2) {
                CoastRadar r = Checks.radar(2000, 16);
                Checks.sweep(r, 1, 0, 0);
                Checks.sweep(r, 1, sign * 64, sign * 64);
                r.tune(0, 2000, 16, 1);
                // In 16 ticks it goes 1024 places.
                Checks.sweep(r, 16, sign * (1088 + row[0]), sign * (1088 + row[0]));
                Checks.equal("step 3: speed x, 16384 and " + row[0] + ", sign " + sign, r.track(0, 2), sign * row[1]);
                Checks.equal("step 3: speed y, 16384 and " + row[0] + ", sign " + sign, r.track(0, 3), sign * row[1]);
            }
        }
    }

    private static void is(CoastRadar r, String what, int state, int joined, int misses) {
        Checks.equal(what + ", state", r.track(0, 4), state);
        Checks.equal(what + ", joined", r.track(0, 5), joined);
        Checks.equal(what + ", misses", r.track(0, 6), misses);
        Checks.equal(what + ", firm ones", r.count(5), state == 1 ? 1 : 0);
    }

    /** Step 3: "a new one that has been joined 3 times (the blip with which it begins counts) is firm". */
    private static void joinedThreeTimes() {
        CoastRadar r = Checks.radar(100, 0);
        for (int i = 1; i <= 5; i++) {
            Checks.sweep(r, 1, 5, 5);
            is(r, "step 3: joined " + i + " times", i >= 3 ? 1 : 0, i, 0);
        }
        Checks.text("step 3: it becomes firm once", Checks.events(r), "0:0:0:-1 2:1:0:-1");
    }

    /** Step 3, the same, with a miss behind each join. */
    private static void joinedThreeTimesWithMisses() {
        CoastRadar r = Checks.radar(100, 0);
        for (int i = 1; i <= 2; i++) {
            Checks.sweep(r, 1, 5, 5);
            is(r, "step 3: joined " + i + " times", 0, i, 0);
            r.sweep(1);
            is(r, "step 3: missed then", 0, i, 1);
        }
        Checks.sweep(r, 1, 5, 5);
        is(r, "step 3: joined 3 times", 1, 3, 0);
        Checks.text("step 3: events", Checks.events(r), "0:0:0:-1 4:1:0:-1");
    }

    /** Step 3: "A new one with 2 misses ends". */
    private static void newOneWithTwoMisses() {
        for (int joined = 1; joined <= 2; joined++) {
            CoastRadar r = Checks.radar(100, 0);
            for (int i = 0; i < joined; i++) {
                Checks.sweep(r, 1, 5, 5);
            }
            r.sweep(1);
            is(r, "step 3: a new one with a miss", 0, joined, 1);
            r.sweep(1);
            Checks.equal("step 3: with 2 misses it ends", r.count(4), 0);
            Checks.equal("step 3: it can't be known again", r.count(6), 0);
            Checks.text("step 3: no event tells it", Checks.events(r), "0:0:0:-1");
            Checks.refuses(r, "promise 12: its name", Checks.BOUNDS, () -> r.track(0, 0));
        }
    }

    /** Terms: "how many it has missed one behind the other". */
    private static void missesOneBehindTheOther() {
        CoastRadar r = Checks.radar(100, 0);
        for (int i = 0; i < 3; i++) {
            Checks.sweep(r, 1, 5, 5);
        }
        for (int misses = 1; misses <= 4; misses++) {
            Checks.empty(r, misses, 1);
            is(r, "step 3: it coasts", 2, 2 + misses, misses);
            Checks.sweep(r, 1, 5, 5);
            is(r, "step 3: its misses are 0", 1, 3 + misses, 0);
        }
        Checks.equal("step 3: with ten misses in all it is there", r.count(4), 1);
    }

    /** Step 3: "a firm one coasts". */
    private static void firmOneCoasts() {
        CoastRadar r = Checks.firm(0, 0, 16, -16);
        is(r, "step 3: firm", 1, 3, 0);
        r.sweep(1);
        is(r, "step 3: with the first miss it coasts", 2, 3, 1);
        Checks.text("step 3: it is told once", Checks.eventsOf(r, 3), "2:0:-1");
        r.sweep(1);
        is(r, "step 3: with the second miss it still does", 2, 3, 2);
        Checks.text("step 3: it is not told again", Checks.eventsOf(r, 4), "");
    }

    /** Step 3: "one that coasts and has 5 misses is lost". */
    private static void coastsWithFiveMisses() {
        CoastRadar r = Checks.firm(0, 0, 16, -16);
        Checks.empty(r, 4, 1);
        is(r, "step 3: 4 misses", 2, 3, 4);
        Checks.equal("step 3: none is lost", r.count(6), 0);
        r.sweep(1);
        Checks.equal("step 3: with 5 misses it is none of the tracks", r.count(4), 0);
        Checks.equal("step 3: it is lost", r.count(6), 1);
        Checks.text("step 3: it is told", Checks.eventsOf(r, 7), "3:0:-1");
        Checks.refuses(r, "promise 11: no track", Checks.BOUNDS, () -> r.name(0));
        Checks.refuses(r, "promise 12: its name", Checks.BOUNDS, () -> r.track(0, 0));
    }

    /** Step 3: "one that coasts is firm again", with 1 to 4 misses. */
    private static void firmAgain() {
        for (int misses = 1; misses <= 4; misses++) {
            CoastRadar r = Checks.firm(0, 0, 0, 0);
            Checks.empty(r, misses, 1);
            Checks.sweep(r, 1, 1, 1);
            is(r, "step 3: firm again behind " + misses + " misses", 1, 4, 0);
            Checks.text("step 3: it is told", Checks.eventsOf(r, 3 + misses), "4:0:-1");
        }
    }

    /** Step 3: "A track that is not joined is where it was expected, with its speed as it was; it has one miss more." */
    private static void notJoined() {
        CoastRadar r = Checks.firm(10, -10, 24, -24);
        for (int misses = 1; misses <= 4; misses++) {
            r.sweep(1);
            Checks.equal("step 3: x, 1.5 to the greater number", r.track(0, 0), 160 + 2 * misses);
            Checks.equal("step 3: y, -1.5 to the greater number", r.track(0, 1), -160 - misses);
            Checks.equal("step 3: speed x", r.track(0, 2), 24);
            Checks.equal("step 3: speed y", r.track(0, 3), -24);
            Checks.equal("step 3: misses", r.track(0, 6), misses);
        }
    }

    /** A radar whose field 0, 0 has the level 60 but some; one firm track is at 900, 900 in it. */
    private static CoastRadar belowSixty(int less) {
        CoastRadar r = Checks.radar(1, 0);
        for (int i = 0; i < 3; i++) {
            Checks.sweep(r, 60, 900, 900);
        }
        for (int row = 0; row < 2; row++) {
            for (int i = 0; i < 10; i++) {
                r.report(0, 40 * i, 100 * row, 99);
            }
            r.sweep(60);
        }
        Checks.equal("step 4: at most 60", r.level(0, 0), 60);
        for (int i = 0; i < less; i++) {
            Checks.equal("set up: it is joined", Checks.sweep(r, 60, 900, 900), 1);
        }
        Checks.equal("step 4: 1 less for each that is joined", r.level(0, 0), 60 - less);
        return r;
    }

    /** Step 4: "becomes 3 greater, if it was not joined .. (at most 60 ..)". */
    private static void levelAtMost60() {
        int[][] rows = {{4, 59}, {3, 60}, {2, 60}, {1, 60}, {0, 60}};
        for (int[] row : rows) {
            CoastRadar r = belowSixty(row[0]);
            Checks.equal("set up: it is not joined", Checks.sweep(r, 1, 5, 700), 0);
            Checks.equal("step 4: level " + (60 - row[0]) + " and 3", r.level(0, 0), row[1]);
        }
    }

    /** Step 4: "and 1 less, if it was (.. at least 0)". */
    private static void levelAtLeast0() {
        CoastRadar r = Checks.radar(10, 0);
        int[] due = {3, 2, 1, 0, 0, 0};
        for (int i = 0; i < due.length; i++) {
            Checks.sweep(r, 1, 5, 5);
            Checks.equal("step 4: level behind " + i + " joins", r.level(0, 0), due[i]);
        }
        Checks.sweep(r, 1, 5, 500);
        Checks.equal("step 4: 0 and 3", r.level(0, 0), 3);
    }

    /** Step 4: "for each blip, in their order": at 60 and at 0 the order counts. */
    private static void levelInTheirOrder() {
        CoastRadar r = belowSixty(0);
        Checks.sweep(r, 1, 900, 900, 5, 700);
        Checks.equal("step 4: 60, 1 less, 3 greater", r.level(0, 0), 60);
        CoastRadar s = belowSixty(0);
        Checks.sweep(s, 1, 5, 700, 900, 900);
        Checks.equal("step 4: 60, 3 greater, 1 less", s.level(0, 0), 59);
        int[][] orders = {{5, 5, 5, 500, 3}, {5, 500, 5, 5, 2}};
        for (int[] o : orders) {
            CoastRadar t = Checks.radar(10, 0);
            for (int i = 0; i < 4; i++) {
                Checks.sweep(t, 1, 5, 5);
            }
            Checks.equal("step 4: level 0", t.level(0, 0), 0);
            Checks.sweep(t, 1, o[0], o[1], o[2], o[3]);
            Checks.equal("step 4: 0 with both, in their order", t.level(0, 0), o[4]);
        }
    }

    /** Step 4: "The field is that of the place of the blip as it waits." */
    private static void fieldWhereItWaits() {
        int[][] rows = {{-1, 0, -1}, {-2, 1, -1}, {0, 1, 0}, {999, 1000, 999}, {999, 1001, 1000}, {-1001, -1000, -1001}, {-1001, -999, -1000}};
        for (int[] row : rows) {
            CoastRadar r = Checks.stations(2);
            r.report(0, row[0], 500, 50);
            r.report(1, row[1], 500, 50);
            r.sweep(1);
            for (int[] other : rows) {
                boolean same = Math.floorDiv(other[0], 1000) == Math.floorDiv(row[2], 1000);
                Checks.equal("step 4: " + row[0] + " and " + row[1] + " wait at " + row[2] + "; the level at " + other[0],
                    r.level(other[0], 500), same ? 3 : 0);
            }
        }
    }

    /** Step 5: "as long as there are fewer than 10"; "A blip for which there is no room is left." */
    private static void fewerThanTen() {
        for (int tracks = 8; tracks <= 10; tracks++) {
            CoastRadar r = Checks.radar(1, 0);
            for (int i = 0; i < tracks; i++) {
                r.report(0, 100 * i, 5, 99);
            }
            r.sweep(1);
            Checks.equal("step 5: tracks", r.count(4), tracks);
            Checks.equal("step 5: none is joined", Checks.sweep(r, 1, 5, 3500, 5, 4500, 5, 5500), 0);
            Checks.equal("step 5: tracks, with three blips more", r.count(4), 10);
            Checks.equal("step 5: names", r.count(10), 10);
            Checks.equal("step 5: events", r.count(9), 10);
            for (int i = 0; i < 3; i++) {
                Checks.equal("promise 8: its name, of " + tracks, r.blip(i, 4), tracks + i < 10 ? tracks + i : -1);
                Checks.equal("step 4: one that is left makes clutter", r.level(5, 3500 + 1000 * i), 3);
            }
            Checks.refuses(r, "promise 11: a track 10", Checks.BOUNDS, () -> r.name(10));
            Checks.equal("promise 11: the track 9", r.name(9), 9);
            Checks.empty(r, 2, 1);
            Checks.equal("step 5: what was left does not begin later", r.count(10), 10);
        }
    }

    /** Step 5, the same: those that end, or are lost, in this sweep leave room in it. */
    private static void roomOfThoseThatEnd() {
        CoastRadar r = Checks.radar(1, 0);
        for (int i = 0; i < 3; i++) {
            Checks.sweep(r, 1, 5, 5);
        }
        Checks.empty(r, 3, 1);
        int[] nine = new int[18];
        for (int i = 0; i < 9; i++) {
            nine[2 * i] = 100 * i;
            nine[2 * i + 1] = 1005;
        }
        Checks.sweep(r, 1, nine);
        Checks.equal("step 5: ten tracks", r.count(4), 10);
        Checks.sweep(r, 1, 5, 3005, 5, 4005);
        Checks.text("step 5: room for one, where one is lost", Checks.joins(r, 2), "10 -1");
        Checks.sweep(r, 1, 5, 3005, 5, 4005, 5, 5005);
        Checks.text("step 5: room where nine end", Checks.joins(r, 3), "10 11 12");
        Checks.text("promise 11: names", Checks.names(r), "10 11 12");
    }

    /** Step 5: "at its place, with the speed 0, joined once". */
    private static void howATrackBegins() {
        int[][] places = {{-9999, 9999}, {9999, -9999}, {0, 0}, {-1, 1}};
        for (int[] p : places) {
            CoastRadar r = Checks.stations(1);
            Checks.sweep(r, 60, p[0], p[1]);
            int[] due = {16 * p[0], 16 * p[1], 0, 0, 0, 1, 0, 1};
            for (int what = 0; what <= 7; what++) {
                Checks.equal("step 5: what " + what + " of a track at " + p[0] + ", " + p[1], r.track(0, what), due[what]);
            }
            Checks.equal("promise 14: its speed", (long) (65536 * r.speed(0)), 0);
        }
    }

    /** Step 5, the same, in the sweep in which another track is lost, or has ended: nothing of that one is left. */
    private static void howATrackBeginsBehindAnother() {
        int[] due = {112, -112, 0, 0, 0, 1, 0, 1};
        CoastRadar r = Checks.firm(500, 500, 24, -24);
        r.addPlace(true, 0, -100, 9000, 9000);
        Checks.empty(r, 4, 60);
        r.tune(0, 1, 16, 0);
        Checks.sweep(r, 60, 7, -7);
        CoastRadar s = Checks.moving(500, 500, -24, 24);
        Checks.empty(s, 1, 60);
        s.tune(0, 1, 16, 0);
        Checks.sweep(s, 60, 7, -7);
        for (int what = 0; what <= 7; what++) {
            Checks.equal("step 5: what " + what + ", where one was lost", r.track(1, what), due[what]);
            Checks.equal("step 5: what " + what + ", where one has ended", s.track(1, what), due[what]);
        }
        Checks.refuses(r, "promise 13: where it was ahead of that", Checks.BOUNDS, () -> r.path(1, 1, true));
        Checks.sweep(s, 60, 7, -7);
        Checks.sweep(s, 60, 7, -7);
        Checks.equal("step 5: it stays where it began", s.track(1, 0), 112);
        Checks.equal("step 5: its third join makes it firm", s.track(1, 4), 1);
    }

    /** Terms: "Each has a name, from 0 on, given in the order in which they begin; those that were lost keep theirs." */
    private static void namesInOrder() {
        CoastRadar r = Checks.radar(1, 0);
        Checks.equal("promise 10: no name yet", r.count(10), 0);
        Checks.sweep(r, 1, 5, 5, 500, 5);
        Checks.text("names from 0 on", Checks.names(r), "0 1");
        Checks.sweep(r, 1, 5, 5, 500, 5);
        Checks.sweep(r, 1, 5, 5, 500, 5);
        for (int i = 0; i < 5; i++) {
            Checks.sweep(r, 1, 500, 5);
        }
        Checks.text("the name 0 is lost", Checks.names(r), "1");
        Checks.sweep(r, 1, 500, 5, 5, 2005);
        Checks.text("the next name is new", Checks.names(r), "1 2");
        Checks.empty(r, 2, 1);
        Checks.sweep(r, 1, 500, 5, 5, 3005);
        Checks.text("nor is the name of one that has ended given again", Checks.names(r), "1 3");
        Checks.equal("promise 10: names that were given", r.count(10), 4);
    }
}
