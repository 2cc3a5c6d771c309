/** The boundaries that the steps 6 to 8 of a sweep name (known again, crossings, areas): a test for each such sentence. */
final class EdgeMeetingTest {
    public static void main(String[] args) {
        lastTwelveSweeps();
        lostInTheSweepItself();
        countOfThoseThatCanBeKnown();
        squareOfFourGates();
        gateOfThisSweep();
        squareInSixteenths();
        allTicksRoundedOnce();
        leastSquare();
        smallestNameOfSeveral();
        ascendingOrderOfNames();
        lostOneIsForgotten();
        placeOfTheTrackNow();
        eachLostOneByItself();
        laterOnesStay();
        ownNameIsNotGivenAgain();
        newOutOfNewOnesAlone();
        endedOnesAreNotKnown();
        knownTwice();
        allTenKnownAgain();
        waysMeet();
        waysMissByASixteenth();
        waysOnOneLine();
        waysThatArePlaces();
        crossingOfFirmOnes();
        crossingWithoutAWay();
        crossingByNewNames();
        crossingsInOrder();
        sidesOfAnArea();
        entersOrStays();
        leaves();
        wasNotFirm();
        areaAddedSince();
        knownAgainEnters();
        areasInOrder();
        lastAreaOfSix();
        Checks.end("EdgeMeetingTest");
    }

    /** A radar with gate 10 in which the tracks at some places are lost in sweep 7; each sweep has one tick. */
    private static CoastRadar lost(int... places) {
        CoastRadar r = Checks.radar(10, 0);
        for (int i = 0; i < 3; i++) {
            Checks.sweep(r, 1, places);
        }
        Checks.empty(r, 5, 1);
        Checks.equal("set up: lost ones", r.count(6), places.length / 2);
        Checks.equal("set up: sweeps", r.count(7), 8);
        return r;
    }

    /** Three sweeps of some ticks with blips at the same places, so that new tracks become firm. */
    private static void comeBack(CoastRadar r, int ticks, int... places) {
        for (int i = 0; i < 3; i++) {
            Checks.sweep(r, ticks, places);
        }
    }

    /** Step 6: "one that is lost in a sweep is one of it, and of the 12 that follow". */
    private static void lastTwelveSweeps() {
        for (int later = 3; later <= 14; later++) {
            CoastRadar r = lost(0, 0);
            Checks.empty(r, later - 3, 1);
            comeBack(r, 1, 5, 0);
            boolean known = later <= 12;
            Checks.text("step 6: " + later + " sweeps behind that in which it was lost", Checks.names(r), known ? "0" : "1");
            Checks.equal("step 6: its event", r.event(r.count(9) - 1, 1), known ? 5 : 1);
            Checks.equal("promise 10: lost ones", r.count(6), 0);
        }
    }

    /** Step 6: "one that is lost in a sweep is one of it". */
    private static void lostInTheSweepItself() {
        CoastRadar r = Checks.radar(10, 0);
        comeBack(r, 1, 0, 0);
        Checks.empty(r, 2, 1);
        Checks.sweep(r, 1, 300, 0);
        Checks.sweep(r, 1, 300, 0);
        r.tune(0, 75, 16, 0);
        Checks.equal("promise 10: none is lost yet", r.count(6), 0);
        Checks.sweep(r, 1, 300, 0);
        Checks.text("step 6: lost, firm and known again in one sweep", Checks.eventsOf(r, 7), "3:0:-1 1:1:-1 5:0:1");
        Checks.equal("promise 10: none is lost any longer", r.count(6), 0);
        Checks.equal("promise 12: it is firm", r.track(0, 4), 1);
    }

    /** Promise 10: "6 lost ones that can be known again in the next sweep". */
    private static void countOfThoseThatCanBeKnown() {
        CoastRadar r = lost(0, 0);
        for (int next = 8; next <= 19; next++) {
            Checks.equal("promise 10: ahead of sweep " + next, r.count(6), 1);
            r.sweep(60);
        }
        Checks.equal("promise 10: ahead of sweep 20", r.count(6), 0);
        CoastRadar s = Checks.radar(10, 0);
        for (int i = 0; i < 9; i++) {
            Checks.sweep(s, 1, i < 3 ? new int[] {0, 0, 500, 0} : i < 4 ? new int[] {500, 0} : new int[] {});
            Checks.equal("promise 10: lost ones behind sweep " + i, s.count(6), i < 7 ? 0 : i - 6);
        }
        Checks.empty(s, 11, 1);
        Checks.equal("promise 10: the first one can't be known any longer", s.count(6), 1);
        s.sweep(1);
        Checks.equal("promise 10: nor the second one", s.count(6), 0);
    }

    /** Step 6: "if this is at most that of 16 * 4 * gate". */
    private static void squareOfFourGates() {
        int[][] rows = {{10, 40, 0, 1}, {10, 41, 0, 0}, {10, 0, -40, 1}, {10, 0, -41, 0}, {10, 24, 32, 1}, {10, 24, 33, 0}, {10, -24, -32, 1},
            {10, -25, -32, 0}, {1, 4, 0, 1}, {1, 5, 0, 0}, {1, 0, 0, 1}, {2000, 8000, 0, 1}, {2000, 8001, 0, 0}, {2000, -4800, 6400, 1},
            {2000, -4800, 6401, 0}};
        for (int[] row : rows) {
            CoastRadar r = lost(0, 0);
            r.tune(0, row[0], 16, 0);
            comeBack(r, 1, row[1], row[2]);
            Checks.equal("step 6: gate " + row[0] + ", " + row[1] + ", " + row[2] + " away", r.name(0), 1 - row[3]);
        }
    }

    /** Step 6, the same: the gate is that of the sweep in which it has become firm. */
    private static void gateOfThisSweep() {
        CoastRadar r = lost(0, 0);
        Checks.sweep(r, 1, 40, 0);
        Checks.sweep(r, 1, 40, 0);
        r.tune(0, 9, 16, 0);
        Checks.sweep(r, 1, 40, 0);
        Checks.equal("step 6: less then", r.name(0), 1);
        CoastRadar s = lost(0, 0);
        Checks.sweep(s, 1, 44, 0);
        Checks.sweep(s, 1, 44, 0);
        s.tune(0, 11, 16, 0);
        Checks.sweep(s, 1, 44, 0);
        Checks.equal("step 6: greater then", s.name(0), 0);
    }

    /** A track that goes with some speed from 0, 0 for 5 sweeps of some ticks, and is lost then; the gate is 10. */
    private static CoastRadar lostWithSpeed(int speedX, int speedY, int ticks) {
        CoastRadar r = Checks.firm(0, 0, speedX, speedY);
        Checks.empty(r, 5, ticks);
        Checks.equal("set up: it is lost", r.count(6), 1);
        r.tune(0, 10, 16, 0);
        return r;
    }

    /** Step 6: the square is that of places in sixteenths: a sixteenth more is too far. */
    private static void squareInSixteenths() {
        // It has gone 5 sixteenths when it is lost, and one in each tick that follows.
        int[][] rows = {{11, 1, -39, 1}, {11, 1, 41, 1}, {12, 1, -39, 0}, {12, 1, 41, 1}, {10, 1, -39, 1}, {10, 1, 41, 0},
            {11, -1, 39, 1}, {11, -1, -41, 1}, {12, -1, 39, 0}, {12, -1, -41, 1}, {10, -1, 39, 1}, {10, -1, -41, 0}};
        for (int[] row : rows) {
            for (int axis = 0; axis <= 1; axis++) {
                CoastRadar r = lostWithSpeed(axis == 0 ? 16 * row[1] : 0, axis == 1 ? 16 * row[1] : 0, 1);
                int x = axis == 0 ? row[2] : 0;
                int y = axis == 1 ? row[2] : 0;
                Checks.sweep(r, row[0] - 2, x, y);
                Checks.sweep(r, 1, x, y);
                Checks.sweep(r, 1, x, y);
                Checks.equal("step 6: " + row[1] * (5 + row[0]) + " sixteenths on, found at " + x + ", " + y, r.name(0), 1 - row[3]);
            }
        }
        for (int ticks = 10; ticks <= 12; ticks++) {
            CoastRadar r = lostWithSpeed(0, 16, 1);
            Checks.sweep(r, ticks - 2, 40, 1);
            Checks.sweep(r, 1, 40, 1);
            Checks.sweep(r, 1, 40, 1);
            Checks.equal("step 6: 40 away by x, sixteenths by y: " + (ticks - 11), r.name(0), ticks == 11 ? 0 : 1);
        }
    }

    /** Step 6: "(from where it was lost, with its speed, for all ticks since it was lost)", rounded, above and below 0. */
    private static void allTicksRoundedOnce() {
        // In 5 sweeps of 2 ticks it goes 5 sixteenths; in 21 ticks more 10.5: 11 with a speed of 8, -10 with -8.
        int[][] rows = {{8, 21, 41, 1}, {8, 20, 41, 0}, {-8, 21, -41, 0}, {-8, 22, -41, 1}};
        for (int[] row : rows) {
            for (int axis = 0; axis <= 1; axis++) {
                CoastRadar r = lostWithSpeed(axis == 0 ? row[0] : 0, axis == 1 ? row[0] : 0, 2);
                int x = axis == 0 ? row[2] : 0;
                int y = axis == 1 ? row[2] : 0;
                // Odd numbers of ticks: if each sweep were rounded by itself, it would go farther, or less far.
                Checks.sweep(r, row[1] - 10, x, y);
                Checks.sweep(r, 5, x, y);
                Checks.sweep(r, 5, x, y);
                Checks.equal("step 6: speed " + row[0] + ", ticks " + row[1] + ", found at " + x + ", " + y, r.name(0), 1 - row[3]);
            }
        }
    }

    /** Step 6: "has the least square from the place of the track". */
    private static void leastSquare() {
        CoastRadar r = lost(0, 0, 41, 0);
        comeBack(r, 1, 21, 0);
        Checks.text("step 6: 21 and 20 away", Checks.names(r), "1");
        CoastRadar s = lost(0, 0, 41, 0);
        comeBack(s, 1, 20, 0);
        Checks.text("step 6: 20 and 21 away", Checks.names(s), "0");
        CoastRadar t = lost(0, 0, 30, 30);
        comeBack(t, 1, 30, 0);
        Checks.text("step 6: 30 and 30 away", Checks.names(t), "0");
    }

    /** Step 6: "of several the one with the smallest name", even though others were lost ahead of it. */
    private static void smallestNameOfSeveral() {
        CoastRadar r = lost(0, 20, 20, 0, -20, 0);
        comeBack(r, 1, 0, 0);
        Checks.text("step 6: of three as near", Checks.names(r), "0");
        comeBack(r, 1, 0, 20, 0, 0);
        Checks.equal("set up: the name 0 is there still", r.track(0, 5), 6);
        CoastRadar s = Checks.radar(10, 0);
        comeBack(s, 1, 0, 20, 20, 0);
        Checks.sweep(s, 1, 0, 20);
        Checks.empty(s, 5, 1);
        Checks.text("set up: the name 1 is lost ahead of the name 0", Checks.eventsOf(s, 7) + " " + Checks.eventsOf(s, 8), "3:1:-1 3:0:-1");
        comeBack(s, 1, 0, 0);
        Checks.text("step 6: the smallest name, not the one that was lost first", Checks.names(s), "0");
    }

    /** Step 6: "Tracks that have become firm in this sweep .., in ascending order of names". */
    private static void ascendingOrderOfNames() {
        CoastRadar r = lost(0, 0, 35, 0);
        comeBack(r, 1, 30, 0, 15, 0);
        Checks.text("step 6: the name 2 takes the nearest one, 3 what is left", Checks.eventsOf(r, 10), "1:2:-1 1:3:-1 5:1:2 5:0:3");
        Checks.text("promise 11: names", Checks.names(r), "0 1");
        Checks.equal("promise 12: x of the name 0", r.track(0, 0), 240);
        Checks.equal("promise 12: x of the name 1", r.track(1, 0), 480);
        CoastRadar s = lost(0, 0);
        comeBack(s, 1, 39, 0, 1, 0);
        Checks.text("step 6: the first one takes it, though the second one is nearer", Checks.names(s), "0 2");
        Checks.equal("promise 12: x of the name 0", s.track(0, 0), 624);
    }

    /** Step 6: "the track takes its name, and the lost one is forgotten". */
    private static void lostOneIsForgotten() {
        CoastRadar r = lost(0, 0);
        comeBack(r, 1, 5, 0);
        Checks.equal("promise 10: none is lost", r.count(6), 0);
        Checks.refuses(r, "promise 12: its own name", Checks.BOUNDS, () -> r.track(1, 0));
        comeBack(r, 1, 5, 0, 5, 20);
        Checks.text("step 6: it is known again once", Checks.names(r), "0 2");
        CoastRadar s = lost(0, 0, 10, 0, 20, 0);
        comeBack(s, 1, 10, 0);
        Checks.text("step 6: the one between", Checks.names(s), "1");
        Checks.equal("promise 10: two are lost still", s.count(6), 2);
        comeBack(s, 1, 10, 0, 11, 20);
        Checks.text("step 6: then the last one", Checks.names(s), "1 2");
        comeBack(s, 1, 10, 0, 11, 20, -30, 0);
        Checks.text("step 6: then the first one", Checks.names(s), "0 1 2");
        Checks.equal("promise 10: none is lost any longer", s.count(6), 0);
    }

    /** Step 6: "from the place of the track": where it is now, not where it was ahead of that. */
    private static void placeOfTheTrackNow() {
        for (int more = 0; more <= 1; more++) {
            for (int axis = 0; axis <= 1; axis++) {
                CoastRadar r = lost(0, 0);
                int[] away = {49, 48, 40 + more};
                for (int i = 0; i < 3; i++) {
                    Checks.sweep(r, 1, axis == 0 ? away[i] : 0, axis == 1 ? away[i] : 0);
                }
                Checks.equal("step 6: it comes from 48 to " + away[2] + ", axis " + axis, r.name(0), more);
                CoastRadar s = lost(0, 0);
                int[] back = {39, 40, 40 + more};
                for (int i = 0; i < 3; i++) {
                    Checks.sweep(s, 1, axis == 0 ? back[i] : 0, axis == 1 ? back[i] : 0);
                }
                Checks.equal("step 6: it goes from 40 to " + back[2] + ", axis " + axis, s.name(0), more);
            }
        }
    }

    /** Three tracks, with three places and speeds, that are lost in the sweeps 7, 8 and 9; each sweep has 16 ticks. */
    private static CoastRadar lostOneBehindTheOther() {
        CoastRadar r = Checks.firm(0, 0, 16, -32, 3000, 0, -48, 64, 0, 3000, 80, 96);
        r.tune(0, 2000, 0, 0);
        Checks.sweep(r, 16, 3000, 0, 0, 3000);
        Checks.sweep(r, 16, 0, 3000);
        Checks.empty(r, 5, 16);
        Checks.text("set up: lost ones", Checks.eventsOf(r, 7) + " " + Checks.eventsOf(r, 8) + " " + Checks.eventsOf(r, 9), "3:0:-1 3:1:-1 3:2:-1");
        r.tune(0, 1, 16, 0);
        return r;
    }

    /** Where the track of lostOneBehindTheOther() with a name is expected behind a sweep, x. */
    private static int expectedX(int name, int sweep) {
        return (name == 1 ? 3000 : 0) + new int[] {1, -3, 5}[name] * (sweep - 2);
    }

    private static int expectedY(int name, int sweep) {
        return (name == 2 ? 3000 : 0) + new int[] {-2, 4, 6}[name] * (sweep - 2);
    }

    /** Step 6: each lost one by its own place, speed and ticks, whichever of them are forgotten ahead of it. */
    private static void eachLostOneByItself() {
        int[][] orders = {{0, 1, 2}, {0, 2, 1}, {1, 0, 2}, {1, 2, 0}, {2, 0, 1}, {2, 1, 0}};
        for (int[] order : orders) {
            for (int more = 0; more <= 1; more++) {
                CoastRadar r = lostOneBehindTheOther();
                String due = "";
                for (int i = 0; i < 3; i++) {
                    // It becomes firm in the sweep 12 + 3 * i: the first one is lost too long ago by the sweep 20.
                    int sweep = 12 + 3 * i;
                    int x = expectedX(order[i], sweep);
                    int y = expectedY(order[i], sweep) + 4 + more;
                    comeBack(r, 16, x, y);
                    due = "1:" + (3 + i) + ":-1" + (more == 0 ? " 5:" + order[i] + ":" + (3 + i) : "");
                    String events = Checks.eventsOf(r, sweep);
                    Checks.isTrue("step 6: the " + order[i] + " as number " + i + ", 4 and " + more + " away: " + events, events.endsWith(due));
                }
            }
        }
    }

    /** Step 6, the same: those that are lost later are there still, when the first ones have been lost too long ago. */
    private static void laterOnesStay() {
        for (int first = 0; first <= 2; first++) {
            // Behind the sweep 19 + n the names 0 .. n have been lost too long ago.
            for (int name = 0; name <= 2; name++) {
                CoastRadar again = lostOneBehindTheOther();
                Checks.empty(again, 7 + first, 16);
                Checks.equal("promise 10: lost ones ahead of sweep " + again.count(7), again.count(6), 3);
                int sweep = 19 + first;
                comeBack(again, 16, expectedX(name, sweep), expectedY(name, sweep));
                Checks.equal("step 6: the name " + name + " in sweep " + sweep, again.name(0), name >= first ? name : 3);
                Checks.equal("promise 10: lost ones then", again.count(6), 2 - first - (name > first ? 1 : 0));
            }
        }
    }

    /** Step 6: "(Its own name is not given again.)" */
    private static void ownNameIsNotGivenAgain() {
        CoastRadar r = lost(0, 0);
        comeBack(r, 1, 5, 0);
        Checks.equal("promise 10: names that were given", r.count(10), 2);
        Checks.sweep(r, 1, 5, 0, 500, 0);
        Checks.text("step 6: the next name", Checks.names(r), "0 2");
    }

    /** Step 6: "have become firm in this sweep out of new ones": who is firm again, or firm still, is not looked at. */
    private static void newOutOfNewOnesAlone() {
        CoastRadar r = Checks.radar(10, 0);
        comeBack(r, 1, 0, 0, 60, 0);
        Checks.empty(r, 4, 1);
        Checks.sweep(r, 1, 60, 0);
        Checks.text("set up: 0 is lost, 1 is firm again", Checks.eventsOf(r, 7), "3:0:-1 4:1:-1");
        r.tune(0, 100, 16, 0);
        Checks.sweep(r, 1, 60, 0);
        r.sweep(1);
        Checks.sweep(r, 1, 60, 0);
        Checks.text("step 6: it keeps its name", Checks.names(r), "1");
        Checks.equal("promise 10: the other one is still lost", r.count(6), 1);
    }

    /** Step 6: "of all lost tracks": a new one that has ended is none. */
    private static void endedOnesAreNotKnown() {
        CoastRadar r = Checks.radar(10, 0);
        Checks.sweep(r, 1, 0, 0);
        Checks.sweep(r, 1, 0, 0);
        Checks.empty(r, 2, 1);
        Checks.equal("set up: it has ended", r.count(4), 0);
        comeBack(r, 1, 0, 0);
        Checks.text("step 6: it is not known", Checks.names(r), "1");
    }

    /** Step 6: one that is lost by a name that it took is known by that name. */
    private static void knownTwice() {
        CoastRadar r = lost(0, 0);
        comeBack(r, 1, 30, 0);
        Checks.empty(r, 5, 1);
        comeBack(r, 1, 70, 0);
        Checks.text("step 6: from where it was lost the second time", Checks.eventsOf(r, 18), "1:2:-1 5:0:2");
        Checks.text("promise 11: names", Checks.names(r), "0");
        Checks.equal("promise 12: sweeps of its own", r.track(0, 7), 3);
    }

    /** Step 6 with ten lost ones in each of two sweeps, which is more than there are tracks. */
    private static void allTenKnownAgain() {
        int[] ten = new int[20];
        for (int i = 0; i < 10; i++) {
            ten[2 * i] = 100 * i;
        }
        CoastRadar r = lost(ten);
        int[] others = ten.clone();
        for (int i = 0; i < 10; i++) {
            others[2 * i + 1] = 500;
        }
        comeBack(r, 1, others);
        Checks.equal("set up: none is known", r.name(0), 10);
        Checks.empty(r, 5, 1);
        Checks.equal("promise 10: twenty are lost", r.count(6), 20);
        r.tune(0, 125, 16, 0);
        comeBack(r, 1, others);
        Checks.text("step 6: those that are nearest", Checks.names(r), "10 11 12 13 14 15 16 17 18 19");
        Checks.equal("promise 10: ten are lost still", r.count(6), 10);
        Checks.empty(r, 2, 1);
        Checks.equal("promise 10: until their 12 sweeps are over", r.count(6), 0);
    }

    /**
     * Whether two firm tracks cross in the sweep 3. Their ways are told in sixteenths: from 16 times a place by a difference.
     * a and b are 0, so that they go just as they are expected, whatever blip they have.
     */
    private static int crossings(int... ways) {
        return crossingsInSweep(3, ways);
    }

    /** The same in a later sweep: they go on, in each sweep as far as in the one ahead. */
    private static int crossingsInSweep(int sweep, int... ways) {
        CoastRadar r = Checks.firm(ways);
        r.tune(0, 2000, 0, 0);
        int[] blips = new int[ways.length / 2];
        for (int i = 0; i < blips.length; i++) {
            blips[i] = ways[i / 2 * 4 + i % 2];
        }
        for (int i = 3; i <= sweep; i++) {
            Checks.equal("set up: all are joined", Checks.sweep(r, 16, blips), ways.length / 4);
        }
        for (int i = 0; i < blips.length; i++) {
            int from = i / 2 * 4 + i % 2;
            Checks.equal("set up: where it is", r.track(i / 2, i % 2), 16 * ways[from] + (sweep - 2) * ways[from + 2]);
        }
        String events = Checks.eventsOf(r, sweep);
        return events.isEmpty() ? 0 : events.split(" ").length;
    }

    private static void cross(String what, int due, int... ways) {
        Checks.equal("step 7: " + what, crossings(ways), due);
        int[] turned = new int[8];
        for (int i = 0; i < 8; i++) {
            turned[i] = ways[(i + 4) % 8];
        }
        Checks.equal("step 7: " + what + ", by names in the other order", crossings(turned), due);
        for (int i = 0; i < 8; i++) {
            turned[i] = ways[i ^ 1];
        }
        Checks.equal("step 7: " + what + ", x and y turned round", crossings(turned), due);
    }

    /** Step 7: "have a place in common (fractions, too)". */
    private static void waysMeet() {
        cross("an X that meets at 8, 8", 1, 0, 0, 16, 16, 0, 1, 16, -16);
        cross("an X that meets at 8, 1 / 2", 1, 0, 0, 16, 1, 1, 0, -16, 1);
        cross("an X that meets at fractions", 1, 0, 0, 17, 16, 0, 1, 19, -16);
        cross("a T: the second way ends on the first one", 1, 0, 0, 48, 0, 2, 1, 0, -16);
        cross("a T: it begins there", 1, 0, 0, 48, 0, 1, 0, 7, 16);
        cross("an L: both end at one place", 1, 0, 0, 16, 0, 2, 1, -16, -16);
        cross("an L: one ends where the other one began", 1, 0, 0, 32, 0, 2, 0, 7, 16);
        cross("below 0", 1, -3, -3, -16, -16, -3, -4, -16, 16);
    }

    /** Step 7, the same: ways that come to a sixteenth, or to less, of each other have none in common. */
    private static void waysMissByASixteenth() {
        cross("a T that ends a sixteenth ahead", 0, 0, 0, 48, 0, 2, 1, 0, -15);
        cross("a T that goes a sixteenth beyond", 1, 0, 0, 48, 0, 2, 1, 0, -17);
        cross("the first way ends a sixteenth short of it", 0, 0, 0, 31, 0, 2, 1, 0, -32);
        cross("the first way just reaches it", 1, 0, 0, 32, 0, 2, 1, 0, -32);
        cross("an L that is not closed", 0, 0, 0, 15, 0, 2, 1, -16, -16);
        cross("aslant, less than a sixteenth ahead", 0, 0, 0, 48, 32, 2, 0, -13, 12);
        cross("aslant, less than a sixteenth beyond", 1, 0, 0, 48, 32, 2, 0, -13, 13);
        cross("aslant, just on it", 1, 0, 0, 48, 32, 2, 0, -14, 12);
        cross("aslant, the first way ends less than a sixteenth short", 0, 0, 0, 16, 16, 2, 0, 1, 31);
        // The one end is as near to the line of the other way as can be: on neither hand by more than the least fraction.
        cross("it ends on the one hand of it", 0, 0, 0, 37, 47, -1, 2, 27, -18);
        cross("it ends on the other hand of it", 0, 0, 0, -34, 33, -1, 2, 15, -31);
        Checks.equal("step 7: it begins on the one hand of it", crossingsInSweep(4, 0, 0, -19, -13, -3, 1, 13, -40), 0);
        Checks.equal("step 7: it begins on the other hand of it", crossingsInSweep(4, 0, 0, 15, -19, 2, -2, -6, -1), 0);
        cross("side by side, a place apart", 0, 0, 0, 48, 0, 0, 1, 48, 0);
        cross("side by side, aslant", 0, 0, 0, 48, 32, 0, 1, 48, 32);
        cross("they cross behind each other's ways", 0, 0, 0, 16, 16, 0, 3, 16, -16);
    }

    /** Step 7, the same: ways on one line. */
    private static void waysOnOneLine() {
        cross("one ends where the other one is still to begin", 1, 0, 0, 16, 0, 1, 0, 16, 0);
        cross("it ends a sixteenth ahead", 0, 0, 0, 15, 0, 1, 0, 16, 0);
        cross("it ends a sixteenth behind", 1, 0, 0, 17, 0, 1, 0, 16, 0);
        cross("aslant: just so far", 1, 0, 0, 16, 32, 1, 2, 16, 32);
        cross("aslant: not so far", 0, 0, 0, 15, 30, 1, 2, 16, 32);
        cross("towards each other", 1, 0, 0, 9, 0, 1, 0, -7, 0);
        cross("towards each other, a sixteenth apart", 0, 0, 0, 8, 0, 1, 0, -7, 0);
        cross("one way inside of the other one", 1, 0, 0, 64, 0, 1, 0, 16, 0);
        cross("the same way", 1, 5, 5, 32, -16, 5, 5, 32, -16);
    }

    /** Step 7, the same: a track that stays has a way of one place. */
    private static void waysThatArePlaces() {
        cross("two that stay at one place", 1, 5, 5, 0, 0, 5, 5, 0, 0);
        cross("two that stay beside each other", 0, 5, 5, 0, 0, 5, 6, 0, 0);
        cross("over one that stays", 1, 0, 0, 32, 0, 1, 0, 0, 0);
        cross("over one that stays, aslant", 1, 0, 0, 48, 96, 1, 2, 0, 0);
        cross("up to one that stays", 1, 0, 0, 32, 0, 2, 0, 0, 0);
        cross("a sixteenth short of one that stays", 0, 0, 0, 31, 0, 2, 0, 0, 0);
        cross("away from one that stays", 1, 2, 0, 31, 0, 2, 0, 0, 0);
        cross("beside one that stays, by a fraction", 0, 0, 0, 47, 96, 1, 2, 0, 0);
        cross("in its range, but beside it", 0, 0, 0, 32, 32, 1, 0, 0, 0);
    }

    /** Step 7: "two tracks that are firm (at the end of step 3 ..)". */
    private static void crossingOfFirmOnes() {
        CoastRadar r = Checks.firm(0, 0, 0, 0, 0, 0, 0, 0);
        Checks.text("step 7: both firm since this sweep", Checks.eventsOf(r, 2), "1:0:-1 1:1:-1 6:0:1");
        Checks.sweep(r, 1, 0, 0);
        Checks.text("step 7: one coasts", Checks.eventsOf(r, 3), "2:1:-1");
        Checks.sweep(r, 1, 0, 0, 0, 0);
        Checks.text("step 7: it is firm again", Checks.eventsOf(r, 4), "4:1:-1 6:0:1");
        r.sweep(1);
        Checks.text("step 7: both coast", Checks.eventsOf(r, 5), "2:0:-1 2:1:-1");
        CoastRadar s = Checks.moving(0, 0, 0, 0, 0, 0, 0, 0);
        Checks.equal("step 7: both new", s.count(9), 2);
    }

    /** Step 7: "tracks that began in this sweep have no way"; nor does a new one cross. */
    private static void crossingWithoutAWay() {
        CoastRadar r = Checks.radar(20, 0);
        comeBack(r, 1, 0, 0);
        Checks.sweep(r, 1, 10, 0, 5, 0);
        Checks.text("step 7: one begins on the way of a firm one", Checks.eventsOf(r, 3), "0:1:-1");
        Checks.sweep(r, 1, 0, 0, 5, 0);
        Checks.text("step 7: it is new", Checks.eventsOf(r, 4), "");
    }

    /** Step 7: "names as they are now". */
    private static void crossingByNewNames() {
        CoastRadar r = Checks.radar(20, 0);
        comeBack(r, 1, 0, 0, 60, 0);
        for (int i = 0; i < 5; i++) {
            Checks.sweep(r, 1, 60, 0);
        }
        comeBack(r, 1, 60, 0, 60, 0);
        Checks.text("step 7: the smaller name of both, as they are called now", Checks.eventsOf(r, 10), "1:2:-1 5:0:2 6:0:1");
    }

    /** Events: "6 two cross (the smaller name first; in ascending order of the first, then of the second one)". */
    private static void crossingsInOrder() {
        CoastRadar r = Checks.firm(7, 7, 0, 0, 7, 7, 0, 0, 7, 7, 0, 0, 7, 7, 0, 0);
        Checks.sweep(r, 1, 7, 7, 7, 7, 7, 7, 7, 7);
        Checks.text("step 7: four at one place", Checks.eventsOf(r, 3), "6:0:1 6:0:2 6:0:3 6:1:2 6:1:3 6:2:3");
        CoastRadar s = Checks.radar(10, 0);
        int[] ten = new int[20];
        comeBack(s, 1, ten);
        String events = Checks.eventsOf(s, 2);
        Checks.equal("step 7: ten at one place become firm and cross", events.split(" ").length, 10 + 45);
        Checks.isTrue("step 7: the last pair", events.endsWith(" 6:7:8 6:7:9 6:8:9"));
    }

    /** A firm track that goes in sweep 3 to 16 times a place and some sixteenths, in the area 10, -20 to 30, 40 or not. */
    private static int inArea(int x, int y, int moreX, int moreY) {
        CoastRadar r = Checks.firm(x, y, moreX, moreY);
        r.addPlace(true, 10, -20, 30, 40);
        r.tune(0, 2000, 0, 0);
        Checks.sweep(r, 16, x, y);
        Checks.equal("set up: x", r.track(0, 0), 16 * x + moreX);
        Checks.equal("set up: y", r.track(0, 1), 16 * y + moreY);
        String events = Checks.eventsOf(r, 3);
        Checks.text("step 8: its event says what inside() says", events, r.inside(0) == 1 ? "7:0:0" : "");
        return r.inside(0);
    }

    /** Step 8: "if its place, in sixteenths, is in it, the sides included (16 times as great)". */
    private static void sidesOfAnArea() {
        int[][] rows = {{10, 5, 0, 0, 1}, {10, 5, -1, 0, 0}, {10, 5, 1, 0, 1}, {30, 5, 0, 0, 1}, {30, 5, 1, 0, 0}, {30, 5, -1, 0, 1},
            {20, -20, 0, 0, 1}, {20, -20, 0, -1, 0}, {20, -20, 0, 1, 1}, {20, 40, 0, 0, 1}, {20, 40, 0, 1, 0}, {20, 40, 0, -1, 1},
            {10, -20, 0, 0, 1}, {10, -20, -1, -1, 0}, {30, 40, 0, 0, 1}, {30, 40, 1, 1, 0}, {10, 40, 0, 0, 1}, {30, -20, 0, 0, 1}, {30, -20, 1, -1, 0}};
        for (int[] row : rows) {
            Checks.equal("step 8: at " + row[0] + ", " + row[1] + " and " + row[2] + ", " + row[3] + " sixteenths",
                inArea(row[0], row[1], row[2], row[3]), row[4]);
        }
        CoastRadar r = Checks.firm(-9999, -9999, 0, 0, 9999, 9999, 0, 0);
        r.addPlace(true, -9999, -9999, 9999, 9999);
        Checks.equal("step 8: the corners of all", r.inside(0), 3);
    }

    /** Step 8: "It enters, if it is in it now, and was not at the end of the sweep ahead". */
    private static void entersOrStays() {
        CoastRadar r = Checks.radar(100, 0);
        r.addPlace(true, 10, 0, 30, 40);
        comeBack(r, 1, 9, 0);
        Checks.text("step 8: firm beside it", Checks.eventsOf(r, 2), "1:0:-1");
        Checks.sweep(r, 1, 10, 0);
        Checks.text("step 8: it enters", Checks.eventsOf(r, 3), "7:0:0");
        Checks.sweep(r, 1, 30, 40);
        Checks.text("step 8: it stays", Checks.eventsOf(r, 4), "");
        Checks.sweep(r, 1, 31, 40);
        Checks.text("step 8: it leaves", Checks.eventsOf(r, 5), "8:0:0");
        Checks.sweep(r, 1, 31, 40);
        Checks.text("step 8: it stays out", Checks.eventsOf(r, 6), "");
        Checks.sweep(r, 1, 30, 40);
        Checks.text("step 8: it enters again", Checks.eventsOf(r, 7), "7:0:0");
        Checks.sweep(r, 1, 30, -40);
        Checks.sweep(r, 1, 30, 41);
        Checks.text("step 8: it goes past it, between two sweeps", Checks.eventsOf(r, 9), "");
    }

    /** Step 8: "it leaves, if it was in it and firm then, and is firm now, and not in it". */
    private static void leaves() {
        CoastRadar r = Checks.radar(100, 0);
        r.addPlace(true, 10, 0, 30, 40);
        comeBack(r, 1, 10, 0);
        Checks.text("step 8: it enters by being firm", Checks.eventsOf(r, 2), "1:0:-1 7:0:0");
        r.sweep(1);
        Checks.text("step 8: it coasts in it, and does not leave", Checks.eventsOf(r, 3), "2:0:-1");
        Checks.equal("promise 17: one that coasts is not inside", r.inside(0), 0);
        Checks.sweep(r, 1, 0, 0);
        Checks.text("step 8: firm again out of it: it was not firm then", Checks.eventsOf(r, 4), "4:0:-1");
        Checks.sweep(r, 1, 20, 0);
        Checks.text("step 8: it enters", Checks.eventsOf(r, 5), "7:0:0");
        Checks.sweep(r, 1, 9, 0);
        Checks.text("step 8: it leaves", Checks.eventsOf(r, 6), "8:0:0");
    }

    /** Step 8: it enters, if it "was not firm then". */
    private static void wasNotFirm() {
        CoastRadar r = Checks.radar(100, 0);
        r.addPlace(true, 10, 0, 30, 40);
        Checks.sweep(r, 1, 20, 20);
        Checks.sweep(r, 1, 20, 20);
        Checks.text("step 8: a new one does not enter", Checks.eventsOf(r, 1), "");
        Checks.sweep(r, 1, 20, 20);
        Checks.text("step 8: it was new", Checks.eventsOf(r, 2), "1:0:-1 7:0:0");
        r.sweep(1);
        Checks.sweep(r, 1, 20, 20);
        Checks.text("step 8: it coasted", Checks.eventsOf(r, 4), "4:0:-1 7:0:0");
    }

    /** Step 8: "(in an area that was added since, nothing was)". */
    private static void areaAddedSince() {
        CoastRadar r = Checks.radar(100, 0);
        comeBack(r, 1, 0, 0, 300, 0);
        r.addPlace(true, -5, -5, 305, 5);
        Checks.equal("promise 17: both are inside at once", r.inside(0), 3);
        Checks.equal("step 8: without an event", r.count(9), 4);
        Checks.sweep(r, 1, 0, 0, 306, 0);
        Checks.text("step 8: one enters, the other one does not leave", Checks.eventsOf(r, 3), "7:0:0");
        r.addPlace(true, -5, -5, 305, 5);
        Checks.sweep(r, 1, 0, 0, 300, 0);
        Checks.text("step 8: the old area, and the new one", Checks.eventsOf(r, 4), "7:1:0 7:0:1 7:1:1");
    }

    /** Step 8: "(A track that is known again is looked at as the one that it was by its old name.)": it was new, so it enters. */
    private static void knownAgainEnters() {
        CoastRadar r = Checks.radar(20, 0);
        r.addPlace(true, -5, -5, 5, 5);
        comeBack(r, 1, 0, 0);
        Checks.empty(r, 5, 1);
        comeBack(r, 1, 1, 1);
        Checks.text("step 8: it enters by the name that it took", Checks.eventsOf(r, 10), "1:1:-1 5:0:1 7:0:0");
        Checks.sweep(r, 1, 6, 1);
        Checks.text("step 8: and leaves by it", Checks.eventsOf(r, 11), "8:0:0");
        CoastRadar s = Checks.radar(20, 0);
        s.addPlace(true, -5, -5, 5, 5);
        comeBack(s, 1, 0, 0);
        Checks.empty(s, 2, 1);
        Checks.sweep(s, 1, 300, 0);
        Checks.sweep(s, 1, 300, 0);
        s.tune(0, 75, 16, 0);
        Checks.sweep(s, 1, 300, 0);
        Checks.text("step 8: the one by the old name was not in it, and does not leave", Checks.eventsOf(s, 7), "3:0:-1 1:1:-1 5:0:1");
    }

    /** Events: "(area by area, in each in ascending order of names)". */
    private static void areasInOrder() {
        CoastRadar r = Checks.radar(100, 0);
        r.addPlace(true, 0, 0, 10, 1000);
        r.addPlace(true, 10, 0, 20, 1000);
        comeBack(r, 1, 11, 0, 9, 500, 10, 1000);
        Checks.text("step 8: all enter", Checks.eventsOf(r, 2), "1:0:-1 1:1:-1 1:2:-1 7:1:0 7:2:0 7:0:1 7:2:1");
        Checks.sweep(r, 1, 9, 0, 11, 500, 10, 1001);
        Checks.text("step 8: two change over, one leaves both", Checks.eventsOf(r, 3), "7:0:0 8:1:0 8:2:0 8:0:1 7:1:1 8:2:1");
    }

    /** Step 8: with 6 areas the last one is looked at too. */
    private static void lastAreaOfSix() {
        CoastRadar r = Checks.radar(100, 0);
        for (int i = 0; i < 6; i++) {
            r.addPlace(true, -i - 1, -i - 1, i + 1, i + 1);
        }
        comeBack(r, 1, 6, 0);
        Checks.text("step 8: in the last one alone", Checks.eventsOf(r, 2), "1:0:-1 7:0:5");
        Checks.sweep(r, 1, 0, 0);
        Checks.text("step 8: in all", Checks.eventsOf(r, 3), "7:0:0 7:0:1 7:0:2 7:0:3 7:0:4");
        Checks.sweep(r, 1, 7, 0);
        Checks.text("step 8: in none", Checks.eventsOf(r, 4), "8:0:0 8:0:1 8:0:2 8:0:3 8:0:4 8:0:5");
    }
}
