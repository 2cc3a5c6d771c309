/** The boundaries that the terms of clutter and blips and the promises 7 and 8 name: a test for each such sentence. */
final class EdgeBlipTest {
    private static final int MIN = Integer.MIN_VALUE;
    private static final int MAX = Integer.MAX_VALUE;

    public static void main(String[] args) {
        noSuchStation();
        placeOfABlip();
        strengthOfABlip();
        notSeen();
        notGreaterThanTheLevel();
        levelOfTheReportedPlace();
        tenBlips();
        refusedOnesAreNoBlips();
        firstReasonOfSeveral();
        reasonsAheadOfPuttingTogether();
        puttingTogetherAheadOfReasonThree();
        blurIsAtFirst100();
        squareOfTheBlur();
        notSeenYetByThisStation();
        seenByAllFour();
        firstSuchBlip();
        greaterStrength();
        cutDownwards();
        placeInTheMiddleCounts();
        sweptBlipsDoNotWait();
        noSuchBlip();
        whatOfABlip();
        waitingOrSwept();
        sweepWithoutBlips();
        nameOfAWaitingBlip();
        nameOfABlipWithoutRoom();
        nameAtTheEndOfTheSweep();
        setOfStations();
        Checks.end("EdgeBlipTest");
    }

    /** Promise 7: IndexOutOfBoundsException "if there is no such station". */
    private static void noSuchStation() {
        for (int stations = 0; stations <= 4; stations++) {
            CoastRadar r = Checks.stations(stations);
            for (int wrong : new int[] {-1, stations, 4, MIN, MAX}) {
                Checks.refuses(r, "promise 7: station " + wrong + " of " + stations, Checks.BOUNDS, () -> r.report(wrong, 5, 5, 5));
            }
            if (stations > 0) {
                Checks.equal("promise 7: the last station", r.report(stations - 1, 5, 5, 5), 0);
                Checks.equal("promise 7: the first station", r.report(0, 500, 5, 5), 0);
            }
        }
    }

    /** Promise 7: IllegalArgumentException "if x or y is not -9999 to 9999". */
    private static void placeOfABlip() {
        CoastRadar r = Checks.stations(1);
        for (int wrong : new int[] {-10000, 10000, MIN, MAX}) {
            Checks.refuses(r, "promise 7: x " + wrong, Checks.ARGUMENT, () -> r.report(0, wrong, 0, 5));
            Checks.refuses(r, "promise 7: y " + wrong, Checks.ARGUMENT, () -> r.report(0, 0, wrong, 5));
        }
        int[][] places = {{-9999, -9999}, {-9999, 9999}, {9999, -9999}, {9999, 9999}};
        for (int i = 0; i < 4; i++) {
            Checks.equal("promise 7: a corner of all", r.report(0, places[i][0], places[i][1], 5), 0);
            Checks.equal("promise 8: its x", r.blip(i, 0), places[i][0]);
            Checks.equal("promise 8: its y", r.blip(i, 1), places[i][1]);
        }
    }

    /** Terms: "with a strength, 1 to 99". */
    private static void strengthOfABlip() {
        CoastRadar r = Checks.stations(1);
        for (int wrong : new int[] {0, 100, -1, MIN, MAX}) {
            Checks.refuses(r, "promise 7: the strength " + wrong, Checks.ARGUMENT, () -> r.report(0, 5, 5, wrong));
        }
        Checks.equal("promise 7: the strength 1", r.report(0, 5, 5, 1), 0);
        Checks.equal("promise 7: the strength 99", r.report(0, 500, 5, 99), 0);
        Checks.equal("promise 8: the least strength", r.blip(0, 2), 1);
        Checks.equal("promise 8: the greatest strength", r.blip(1, 2), 99);
    }

    /** A refused report answers why, and lets nothing wait. */
    private static void isRefused(CoastRadar r, String what, int why, Checks.Call report) {
        long before = r.digest();
        Checks.equal(what, report.answer(), why);
        Checks.equal(what + ", digest behind it", r.digest(), before);
    }

    /** Terms: "1 the station does not see the place". */
    private static void notSeen() {
        CoastRadar r = new CoastRadar();
        r.addStation(0, 0, 100);
        r.addPlace(false, 10, 10, 20, 20);
        Checks.equal("just at the range", r.report(0, -60, -80, 5), 0);
        isRefused(r, "a place behind the range", 1, () -> r.report(0, -60, -81, 5));
        Checks.equal("at the side of land", r.report(0, 20, 10, 5), 0);
        isRefused(r, "in land", 1, () -> r.report(0, 19, 11, 5));
        isRefused(r, "at the far corner of land", 1, () -> r.report(0, 20, 20, 5));
    }

    /** A radar whose field 0, 0 has a level that is a multiple of 3 or, at most, 60; no track takes a blip. */
    private static CoastRadar levelled(int blips) {
        CoastRadar r = Checks.radar(1, 0);
        for (int i = 0; i < blips; i++) {
            Checks.equal("set up: a blip", r.report(0, 40 * (i % 10) + 5, 100 * (i / 10) + 5, 99), 0);
            if (i % 10 == 9 || i == blips - 1) {
                Checks.equal("set up: a sweep", r.sweep(60), 0);
            }
        }
        Checks.equal("set up: level", r.level(0, 0), Math.min(60, 3 * blips));
        return r;
    }

    /** Terms: "2 its strength is not greater than the level of its field". */
    private static void notGreaterThanTheLevel() {
        for (int blips = 0; blips <= 20; blips += 5) {
            CoastRadar r = levelled(blips);
            int level = 3 * blips;
            if (level > 0) {
                isRefused(r, "level " + level + ", less strong by 1", 2, () -> r.report(0, 5, 500, Math.max(1, level - 1)));
                isRefused(r, "level " + level + ", just as strong", 2, () -> r.report(0, 5, 500, level));
                isRefused(r, "level " + level + ", the least strength", 2, () -> r.report(0, 999, 999, 1));
            }
            Checks.equal("level " + level + ", stronger by 1", r.report(0, 5, 500, level + 1), 0);
            Checks.equal("level " + level + ", the greatest strength", r.report(0, 5, 600, 99), 0);
            Checks.equal("the field beside", r.report(0, 5, -1, 1), 0);
        }
    }

    /** Terms, the same: its field is that where it is reported, not that of the blip with which it is put together. */
    private static void levelOfTheReportedPlace() {
        CoastRadar r = levelled(3);
        r.addStation(0, 0, 20000);
        r.tune(100, 1, 8, 4);
        Checks.equal("a weak blip beside the field", r.report(0, 500, -1, 1), 0);
        isRefused(r, "as strong as the level, in the field", 2, () -> r.report(1, 500, 0, 9));
        Checks.equal("stronger by 1", r.report(1, 500, 0, 10), 0);
        Checks.equal("they were put together", r.count(3), 1);
        CoastRadar s = levelled(3);
        s.addStation(0, 0, 20000);
        s.tune(100, 1, 8, 4);
        Checks.equal("a blip in the field", s.report(0, 500, 0, 10), 0);
        Checks.equal("a weak one beside it is put together with it", s.report(1, 500, -1, 1), 0);
        Checks.equal("one waits", s.count(3), 1);
    }

    /** Terms: "3 there are 10 blips already; otherwise it waits for the sweep." */
    private static void tenBlips() {
        CoastRadar r = Checks.stations(1);
        for (int round = 0; round < 2; round++) {
            for (int i = 0; i < 10; i++) {
                Checks.equal("promise 10: blips ahead of blip " + i, r.count(3), i);
                Checks.equal("blip " + i, r.report(0, 1000 * i, 0, 50), 0);
            }
            isRefused(r, "blip 10", 3, () -> r.report(0, -1000, 0, 50));
            isRefused(r, "blip 10, at the place of another one", 3, () -> r.report(0, 0, 0, 50));
            Checks.equal("promise 10: blips that wait", r.count(3), 10);
            Checks.equal("promise 8: the last one", r.blip(9, 0), 9000);
            Checks.equal("all are joined to the tracks of the sweep ahead", r.sweep(1), round == 0 ? 0 : 10);
            Checks.equal("promise 10: none waits", r.count(3), 0);
        }
    }

    /** Terms, the same: what was refused is none of the 10. */
    private static void refusedOnesAreNoBlips() {
        CoastRadar r = levelled(1);
        r.addStation(0, 0, 10);
        for (int i = 0; i < 10; i++) {
            isRefused(r, "not seen", 1, () -> r.report(1, 500, 500, 99));
            isRefused(r, "too weak", 2, () -> r.report(0, 500, 500, 3));
        }
        for (int i = 0; i < 10; i++) {
            Checks.equal("there is room for blip " + i, r.report(0, -1000 * i - 1, 0, 50), 0);
        }
        isRefused(r, "blip 10", 3, () -> r.report(0, 500, 500, 50));
    }

    /** Terms: the reasons in their order: 1, 2, then 3. */
    private static void firstReasonOfSeveral() {
        CoastRadar r = levelled(3);
        r.addStation(0, 0, 10);
        isRefused(r, "1 and 2", 1, () -> r.report(1, 500, 500, 9));
        for (int i = 0; i < 10; i++) {
            r.report(0, -1000 * i - 1, 0, 50);
        }
        isRefused(r, "1, 2 and 3", 1, () -> r.report(1, 500, 500, 9));
        isRefused(r, "1 and 3", 1, () -> r.report(1, 500, 500, 99));
        isRefused(r, "2 and 3", 2, () -> r.report(0, 500, 500, 9));
        isRefused(r, "3 alone", 3, () -> r.report(0, 500, 500, 10));
    }

    /** Terms: "otherwise it waits for the sweep. If ..": what is refused by 1 or 2 is not put together with another one. */
    private static void reasonsAheadOfPuttingTogether() {
        CoastRadar r = levelled(3);
        r.addStation(0, 0, 10);
        r.addStation(0, 0, 20000);
        r.tune(500, 1, 8, 4);
        r.report(0, 500, 500, 50);
        isRefused(r, "1, though a blip waits there", 1, () -> r.report(1, 500, 500, 99));
        isRefused(r, "2, though a stronger blip waits there", 2, () -> r.report(2, 500, 500, 9));
        Checks.equal("promise 8: seen by the first station alone", r.blip(0, 3), 1);
        Checks.equal("neither", r.report(2, 500, 500, 10), 0);
        Checks.equal("promise 8: seen by two", r.blip(0, 3), 5);
    }

    /** Terms: "(this is looked at ahead of reason 3)". */
    private static void puttingTogetherAheadOfReasonThree() {
        CoastRadar r = Checks.stations(2);
        for (int i = 0; i < 10; i++) {
            r.report(0, 1000 * i, 0, 50);
        }
        isRefused(r, "one place more than the blur away", 3, () -> r.report(1, 101, 0, 50));
        Checks.equal("just the blur away from the first one", r.report(1, 100, 0, 50), 0);
        Checks.equal("just the blur away from the last one", r.report(1, 9000, -100, 50), 0);
        isRefused(r, "the same station at the same place again", 3, () -> r.report(1, 9000, -50, 50));
        Checks.equal("promise 10: ten wait", r.count(3), 10);
        Checks.equal("promise 8: the first one is in the middle", r.blip(0, 0), 50);
        Checks.equal("promise 8: the last one is in the middle", r.blip(9, 1), -50);
    }

    private static int waitingOf(CoastRadar r, int dx, int dy) {
        Checks.equal("the first blip", r.report(0, 20, -30, 5), 0);
        Checks.equal("the second blip", r.report(1, 20 + dx, -30 + dy, 5), 0);
        return r.count(3);
    }

    /** Terms: the blur is "at first 100". */
    private static void blurIsAtFirst100() {
        Checks.equal("at first, 100 away", waitingOf(Checks.stations(2), 100, 0), 1);
        Checks.equal("at first, -100 away", waitingOf(Checks.stations(2), 0, -100), 1);
        Checks.equal("at first, 60 and 80 away", waitingOf(Checks.stations(2), -60, 80), 1);
        Checks.equal("at first, 101 away", waitingOf(Checks.stations(2), 101, 0), 2);
        Checks.equal("at first, -101 away", waitingOf(Checks.stations(2), 0, -101), 2);
        Checks.equal("at first, 100 and 1 away", waitingOf(Checks.stations(2), 100, 1), 2);
        Checks.equal("at first, 60 and 81 away", waitingOf(Checks.stations(2), 60, -81), 2);
    }

    /** Terms: "If the square .. is at most that of the blur (0 to 500 ..)". */
    private static void squareOfTheBlur() {
        int[][] rows = {{0, 0, 0, 1}, {0, 1, 0, 2}, {0, 0, -1, 2}, {1, 0, 1, 1}, {1, -1, 0, 1}, {1, 1, 1, 2}, {1, 2, 0, 2}, {5, 3, 4, 1}, {5, 4, 4, 2},
            {5, -3, -4, 1}, {5, -3, -5, 2}, {500, 300, -400, 1}, {500, 301, -400, 2}, {500, -300, 401, 2}, {500, 500, 0, 1}, {500, 501, 0, 2},
            {500, 0, -500, 1}, {500, 0, -501, 2}};
        for (int[] row : rows) {
            CoastRadar r = Checks.stations(2);
            r.tune(row[0], 300, 8, 4);
            Checks.equal("blur " + row[0] + ", " + row[1] + ", " + row[2] + " away", waitingOf(r, row[1], row[2]), row[3]);
        }
    }

    /** Terms: "a waiting blip that this station has not seen yet". */
    private static void notSeenYetByThisStation() {
        CoastRadar r = Checks.stations(2);
        r.report(0, 5, 5, 5);
        Checks.equal("the same station, the same place", r.report(0, 5, 5, 5), 0);
        Checks.equal("promise 10: two wait", r.count(3), 2);
        r.report(1, 5, 5, 5);
        r.report(1, 5, 5, 5);
        Checks.equal("promise 10: the other one saw both", r.count(3), 2);
        Checks.equal("a blip that was put together has been seen by it", r.report(1, 5, 5, 5), 0);
        Checks.equal("promise 10: a third one waits", r.count(3), 3);
        Checks.equal("promise 8: seen by the second station alone", r.blip(2, 3), 2);
        Checks.equal("that one the first station has not seen", r.report(0, 5, 5, 5), 0);
        Checks.equal("promise 8: seen by both", r.blip(2, 3), 3);
    }

    /** Terms, the same, with all 4 stations. */
    private static void seenByAllFour() {
        CoastRadar r = Checks.stations(4);
        int[] order = {2, 0, 3, 1};
        int[] seen = {4, 5, 13, 15};
        for (int i = 0; i < 4; i++) {
            r.report(order[i], 5, 5, 5);
            Checks.equal("promise 10: one waits", r.count(3), 1);
            Checks.equal("promise 8: seen by " + (i + 1), r.blip(0, 3), seen[i]);
        }
        for (int i = 0; i < 4; i++) {
            r.report(i, 5, 5, 5);
            Checks.equal("promise 10: two wait", r.count(3), 2);
        }
        Checks.equal("promise 8: the second one is seen by all", r.blip(1, 3), 15);
    }

    /** Terms: "the first such blip": neither the nearest nor the latest one. */
    private static void firstSuchBlip() {
        CoastRadar r = Checks.stations(3);
        r.report(0, 101, 0, 5);
        r.report(0, 100, 0, 5);
        r.report(0, 0, 0, 5);
        r.report(1, 0, 0, 5);
        Checks.equal("promise 8: the first one is too far away", r.blip(0, 3), 1);
        Checks.equal("promise 8: the second one is the first such blip", r.blip(1, 3), 3);
        Checks.equal("promise 8: the third one is as near as can be", r.blip(2, 3), 1);
        r.report(1, 0, 0, 5);
        Checks.equal("promise 8: the second one has been seen", r.blip(1, 0), 50);
        Checks.equal("promise 8: the third one is the next such blip", r.blip(2, 3), 3);
        r.report(2, 20, 0, 5);
        Checks.equal("promise 8: now the first one is near enough", r.blip(0, 3), 5);
    }

    /** Terms: "its strength becomes the greater one of both". */
    private static void greaterStrength() {
        int[][] rows = {{1, 99, 99}, {99, 1, 99}, {50, 50, 50}, {50, 51, 51}, {50, 49, 50}};
        for (int[] row : rows) {
            CoastRadar r = Checks.stations(2);
            r.report(0, 5, 5, row[0]);
            r.report(1, 5, 5, row[1]);
            Checks.equal("promise 8: the strength of " + row[0] + " and " + row[1], r.blip(0, 2), row[2]);
        }
    }

    /** Terms: "its place is what is in the middle: (x + x') / 2, cut downwards, so y". */
    private static void cutDownwards() {
        int[][] rows = {{0, 1, 0}, {0, -1, -1}, {1, 0, 0}, {-1, 0, -1}, {1, 2, 1}, {-1, -2, -2}, {0, 3, 1}, {0, -3, -2}, {-1, 1, 0}, {-2, 1, -1},
            {-1, 2, 0}, {7, 7, 7}, {-7, -7, -7}, {9999, 9998, 9998}, {-9999, -9998, -9999}, {9999, 9999, 9999}, {-9999, -9999, -9999}};
        for (int[] row : rows) {
            CoastRadar r = Checks.stations(2);
            r.report(0, row[0], 40, 5);
            r.report(1, row[1], 40, 5);
            Checks.equal("promise 8: x of " + row[0] + " and " + row[1], r.blip(0, 0), row[2]);
            CoastRadar s = Checks.stations(2);
            s.report(0, 40, row[0], 5);
            s.report(1, 40, row[1], 5);
            Checks.equal("promise 8: y of " + row[0] + " and " + row[1], s.blip(0, 1), row[2]);
        }
    }

    /** Terms, the same: a third report is measured from the middle, and the middle is taken with it. */
    private static void placeInTheMiddleCounts() {
        for (int more = 0; more <= 1; more++) {
            CoastRadar r = Checks.stations(3);
            r.report(0, 0, 0, 5);
            r.report(1, 80, 0, 5);
            r.report(2, -60 - more, 0, 5);
            Checks.equal("promise 10: from 40 it is " + (100 + more), r.count(3), 1 + more);
            Checks.equal("promise 8: the middle of 40 and -60", r.blip(0, 0), more == 0 ? -10 : 40);
        }
    }

    /** Terms: "that of a waiting blip": those of a sweep wait no longer. */
    private static void sweptBlipsDoNotWait() {
        CoastRadar r = Checks.stations(2);
        r.report(0, 5, 5, 50);
        r.sweep(1);
        Checks.equal("at the same place", r.report(1, 15, 15, 20), 0);
        Checks.equal("promise 8: x is its own", r.blip(0, 0), 15);
        Checks.equal("promise 8: y is its own", r.blip(0, 1), 15);
        Checks.equal("promise 8: the strength is its own", r.blip(0, 2), 20);
        Checks.equal("promise 8: seen by the second station alone", r.blip(0, 3), 2);
    }

    /** Promise 8: IndexOutOfBoundsException "if there is no such blip". */
    private static void noSuchBlip() {
        CoastRadar r = Checks.stations(1);
        for (int blips = 0; blips <= 10; blips++) {
            if (blips > 0) {
                r.report(0, 900 * blips, 0, 50);
                Checks.equal("promise 8: the last blip", r.blip(blips - 1, 0), 900 * blips);
            }
            for (int wrong : new int[] {-1, blips, 10, MIN, MAX}) {
                Checks.refuses(r, "promise 8: blip " + wrong + " of " + blips, Checks.BOUNDS, () -> r.blip(wrong, 0));
            }
        }
        r.sweep(1);
        Checks.equal("promise 8: the last blip of the sweep", r.blip(9, 0), 9000);
        Checks.refuses(r, "promise 8: blip 10 of the sweep", Checks.BOUNDS, () -> r.blip(10, 0));
        Checks.refuses(r, "promise 8: blip -1 of the sweep", Checks.BOUNDS, () -> r.blip(-1, 0));
    }

    /** Promise 8: IndexOutOfBoundsException if "what is not 0 to 4". */
    private static void whatOfABlip() {
        CoastRadar r = Checks.stations(1);
        r.report(0, 5, 6, 7);
        Checks.equal("promise 8: what 0", r.blip(0, 0), 5);
        Checks.equal("promise 8: what 4", r.blip(0, 4), -1);
        for (int wrong : new int[] {-1, 5, MIN, MAX}) {
            Checks.refuses(r, "promise 8: what " + wrong, Checks.BOUNDS, () -> r.blip(0, wrong));
            Checks.refuses(r, "promise 8: what " + wrong + " of no blip", Checks.BOUNDS, () -> r.blip(1, wrong));
        }
    }

    /** Promise 8: "a blip that waits, or, if none does, one of the latest sweep". */
    private static void waitingOrSwept() {
        CoastRadar r = Checks.stations(2);
        r.report(0, 5, 5, 50);
        r.report(0, 500, 5, 50);
        r.sweep(1);
        Checks.equal("none waits: the second one of the sweep", r.blip(1, 0), 500);
        Checks.equal("a report that is refused", r.report(0, 5, 5, 3), 2);
        Checks.equal("none waits still", r.blip(1, 0), 500);
        r.report(1, 700, 5, 50);
        Checks.equal("one waits", r.blip(0, 0), 700);
        Checks.refuses(r, "one waits: the second one of the sweep", Checks.BOUNDS, () -> r.blip(1, 0));
        r.sweep(1);
        Checks.equal("the one of the latest sweep", r.blip(0, 0), 700);
        Checks.refuses(r, "not the second one of the sweep ahead", Checks.BOUNDS, () -> r.blip(1, 0));
    }

    /** Promise 8, the same: a latest sweep that had no blip. */
    private static void sweepWithoutBlips() {
        CoastRadar r = Checks.stations(1);
        r.report(0, 5, 5, 50);
        r.sweep(1);
        r.sweep(1);
        Checks.refuses(r, "no blip of a sweep without blips", Checks.BOUNDS, () -> r.blip(0, 0));
        Checks.refuses(r, "nor its name", Checks.BOUNDS, () -> r.blip(0, 4));
    }

    /** Promise 8: "-1 if there is none (or it waits)". */
    private static void nameOfAWaitingBlip() {
        CoastRadar r = Checks.stations(2);
        for (int sweep = 0; sweep < 3; sweep++) {
            r.report(0, 5, 5, 50);
            Checks.equal("it waits ahead of sweep " + sweep, r.blip(0, 4), -1);
            r.report(1, 5, 5, 50);
            Checks.equal("it waits, seen by both", r.blip(0, 4), -1);
            r.sweep(1);
            Checks.equal("it has begun the track 0, or was joined to it", r.blip(0, 4), 0);
        }
    }

    /** Promise 8: "-1 if there is none": a blip for which there was no room. */
    private static void nameOfABlipWithoutRoom() {
        CoastRadar r = Checks.radar(10, 0);
        for (int i = 0; i < 10; i++) {
            r.report(0, 100 * i, 0, 99);
        }
        r.sweep(1);
        Checks.sweep(r, 1, 0, 500, 300, 0);
        Checks.equal("no room", r.blip(0, 4), -1);
        Checks.equal("joined", r.blip(1, 4), 3);
    }

    /** Promise 8: "as that is called at the end of the sweep". */
    private static void nameAtTheEndOfTheSweep() {
        CoastRadar r = Checks.radar(20, 0);
        for (int i = 0; i < 3; i++) {
            Checks.sweep(r, 1, 0, 0);
        }
        Checks.empty(r, 5, 1);
        Checks.sweep(r, 1, 0, 0);
        Checks.equal("its own name", r.blip(0, 4), 1);
        Checks.sweep(r, 1, 0, 0);
        Checks.equal("its own name still", r.blip(0, 4), 1);
        Checks.sweep(r, 1, 0, 0);
        Checks.equal("the name that it took", r.blip(0, 4), 0);
    }

    /** Promise 8: "the set of the stations that have seen it (as the sum of the powers 2^k of their numbers k)". */
    private static void setOfStations() {
        for (int set = 1; set <= 15; set++) {
            CoastRadar r = Checks.stations(4);
            for (int station = 0; station < 4; station++) {
                if ((set >> station) % 2 == 1) {
                    r.report(station, 5, 5, 5);
                }
            }
            Checks.equal("promise 8: a set that waits", r.blip(0, 3), set);
            r.sweep(1);
            Checks.equal("promise 8: a set of the latest sweep", r.blip(0, 3), set);
        }
    }
}
