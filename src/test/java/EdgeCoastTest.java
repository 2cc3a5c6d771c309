/** The boundaries that the terms of the coast and the promises 1 to 6 name: a test for each such sentence. */
final class EdgeCoastTest {
    private static final int MIN = Integer.MIN_VALUE;
    private static final int MAX = Integer.MAX_VALUE;
    /** Just allowed, and just not. */
    private static final int[][] PLACES = {{-9999, 0}, {9999, 0}, {0, -9999}, {0, 9999}, {-9999, 9999}, {9999, -9999}};
    private static final int[][] NO_PLACES = {{-10000, 0}, {10000, 0}, {0, -10000}, {0, 10000}, {MIN, 0}, {MAX, 0}, {0, MIN}, {0, MAX}};

    public static void main(String[] args) {
        newObjectAnswers();
        newObjectRefuses();
        usedForAllItsCalls();
        placeOfAStation();
        rangeOfAStation();
        fourStations();
        cornersArePlaces();
        firstCornerIsLess();
        tenPiecesOfLand();
        sixAreas();
        landAndAreasAreNumberedByThemselves();
        placeThatIsSeen();
        noSuchStation();
        squareOfTheRange();
        oneEndInLand();
        greaterAndLessThanTheCorners();
        fractionsInLand();
        cornersOfLand();
        betweenTwoPieces();
        landEverywhere();
        landBehindThePlace();
        placeOfALevel();
        fieldsAreCutDownwards();
        eachFieldHasItsOwnLevel();
        atFirstNoLevel();
        blurLimits();
        gateLimits();
        shareLimits();
        tuneTellsTheGateBefore();
        Checks.end("EdgeCoastTest");
    }

    /** Promise 1: "Creates a radar without stations, land, areas and tracks." What can be asked of it is answered. */
    private static void newObjectAnswers() {
        CoastRadar r = new CoastRadar();
        for (int what = 0; what <= 10; what++) {
            Checks.equal("promise 1: count(" + what + ")", r.count(what), 0);
        }
        Checks.equal("promise 1: dangers(0)", r.dangers(0), 0);
        Checks.equal("promise 1: dangers(5000)", r.dangers(5000), 0);
        Checks.equal("promise 1: mark()", r.mark(), 0);
        Checks.equal("promise 1: restore() to the empty object", r.restore(), 0);
        Checks.equal("promise 1: sweep(1)", r.sweep(1), 0);
        Checks.equal("promise 1: addPlace(), land", r.addPlace(false, 0, 0, 1, 1), 0);
        Checks.equal("promise 1: addPlace(), an area", r.addPlace(true, 0, 0, 1, 1), 0);
        Checks.equal("promise 1: inside()", r.inside(0), 0);
        Checks.equal("promise 1: addStation()", r.addStation(0, 0, 1), 0);
        Checks.equal("promise 1: count(0)", r.count(0), 1);
    }

    /** Promise 1, the same: what it does not have is refused. */
    private static void newObjectRefuses() {
        CoastRadar r = new CoastRadar();
        Checks.refuses(r, "promise 1: sees()", Checks.BOUNDS, () -> r.sees(0, 0, 0) ? 1 : 0);
        Checks.refuses(r, "promise 1: report()", Checks.BOUNDS, () -> r.report(0, 0, 0, 1));
        Checks.refuses(r, "promise 1: blip()", Checks.BOUNDS, () -> r.blip(0, 0));
        Checks.refuses(r, "promise 1: name()", Checks.BOUNDS, () -> r.name(0));
        Checks.refuses(r, "promise 1: track()", Checks.BOUNDS, () -> r.track(0, 0));
        Checks.refuses(r, "promise 1: path()", Checks.BOUNDS, () -> r.path(0, 0, true));
        Checks.refuses(r, "promise 1: speed()", Checks.BOUNDS, () -> (long) r.speed(0));
        Checks.refuses(r, "promise 1: nearest()", Checks.BOUNDS, () -> r.nearest(0, 0));
        Checks.refuses(r, "promise 1: inside()", Checks.BOUNDS, () -> r.inside(0));
        Checks.refuses(r, "promise 1: event()", Checks.BOUNDS, () -> r.event(0, 0));
        Checks.refuses(r, "promise 1: restore()", Checks.STATE, () -> r.restore());
    }

    /** "An object is used for at most 512 calls after it has been made": the 512th one is answered too. */
    private static void usedForAllItsCalls() {
        CoastRadar r = Checks.radar(1, 0);
        int calls = 2;
        for (int sweep = 0; calls + 11 <= 506; sweep++) {
            for (int i = 0; i < 10; i++) {
                r.report(0, 400 * i, sweep % 5 * 100 + sweep / 5 * 500, 99);
            }
            r.sweep(60);
            calls += 11;
        }
        while (calls < 506) {
            r.mark();
            calls++;
        }
        // Ten tracks begin in each second sweep: in the one between, the ten ahead have missed once and leave no room.
        Checks.equal("call 507: sweeps", r.count(7), 45);
        Checks.equal("call 508: names that were given", r.count(10), 230);
        Checks.equal("call 509: events of all sweeps", r.count(9), 230);
        Checks.equal("call 510: the latest event", r.event(119, 2), 229);
        Checks.equal("call 511: restore()", r.restore(), 45);
        Checks.equal("call 512: the oldest event that is kept", r.event(0, 2), 110);
    }

    /** Promise 2: IllegalArgumentException "if x or y is not -9999 to 9999". */
    private static void placeOfAStation() {
        for (int[] p : PLACES) {
            Checks.equal("promise 2: a station at " + p[0] + ", " + p[1], new CoastRadar().addStation(p[0], p[1], 5), 0);
        }
        CoastRadar r = new CoastRadar();
        for (int[] p : NO_PLACES) {
            Checks.refuses(r, "promise 2: a station at " + p[0] + ", " + p[1], Checks.ARGUMENT, () -> r.addStation(p[0], p[1], 5));
        }
        Checks.equal("promise 2: none was added", r.addStation(0, 0, 5), 0);
    }

    /** Terms: "each with a place and a range, 1 to 20000". */
    private static void rangeOfAStation() {
        CoastRadar r = new CoastRadar();
        for (int range : new int[] {0, 20001, -1, -20000, MIN, MAX}) {
            Checks.refuses(r, "promise 2: the range " + range, Checks.ARGUMENT, () -> r.addStation(0, 0, range));
        }
        Checks.equal("promise 2: the range 1", r.addStation(0, 0, 1), 0);
        Checks.equal("promise 2: the range 20000", r.addStation(0, 0, 20000), 1);
    }

    /** Terms: "There are at most 4 stations, numbered from 0 in the order of their creation". */
    private static void fourStations() {
        CoastRadar r = new CoastRadar();
        for (int i = 0; i < 4; i++) {
            Checks.equal("promise 2: stations ahead of station " + i, r.count(0), i);
            Checks.equal("promise 2: station " + i, r.addStation(1000 * i, 0, 10 + i), i);
        }
        Checks.refuses(r, "promise 2: a station 4", Checks.STATE, () -> r.addStation(0, 0, 5));
        Checks.equal("promise 2: stations", r.count(0), 4);
        for (int i = 0; i < 4; i++) {
            Checks.isTrue("station " + i + " is where it was made", r.sees(i, 1000 * i + 10 + i, 0));
            Checks.isFalse("station " + i + " sees as far as it was told", r.sees(i, 1000 * i + 11 + i, 0));
        }
    }

    /** Promise 3: IllegalArgumentException "if one of these is not -9999 to 9999". */
    private static void cornersArePlaces() {
        for (int area = 0; area <= 1; area++) {
            boolean isArea = area == 1;
            CoastRadar r = new CoastRadar();
            for (int wrong : new int[] {-10000, MIN}) {
                Checks.refuses(r, "promise 3: x " + wrong, Checks.ARGUMENT, () -> r.addPlace(isArea, wrong, 0, 5, 5));
                Checks.refuses(r, "promise 3: y " + wrong, Checks.ARGUMENT, () -> r.addPlace(isArea, 0, wrong, 5, 5));
                Checks.refuses(r, "promise 3: u " + wrong, Checks.ARGUMENT, () -> r.addPlace(isArea, 0, 0, wrong, 5));
                Checks.refuses(r, "promise 3: v " + wrong, Checks.ARGUMENT, () -> r.addPlace(isArea, 0, 0, 5, wrong));
            }
            for (int wrong : new int[] {10000, MAX}) {
                Checks.refuses(r, "promise 3: x " + wrong, Checks.ARGUMENT, () -> r.addPlace(isArea, wrong, 0, 5, 5));
                Checks.refuses(r, "promise 3: y " + wrong, Checks.ARGUMENT, () -> r.addPlace(isArea, 0, wrong, 5, 5));
                Checks.refuses(r, "promise 3: u " + wrong, Checks.ARGUMENT, () -> r.addPlace(isArea, 0, 0, wrong, 5));
                Checks.refuses(r, "promise 3: v " + wrong, Checks.ARGUMENT, () -> r.addPlace(isArea, 0, 0, 5, wrong));
            }
            Checks.equal("promise 3: the least corner", r.addPlace(isArea, -9999, -9999, -9998, -9998), 0);
            Checks.equal("promise 3: the greatest corner", r.addPlace(isArea, 9998, 9998, 9999, 9999), 1);
        }
    }

    /** Promise 3: IllegalArgumentException if "u is not greater than x, or v is not greater than y". */
    private static void firstCornerIsLess() {
        for (int area = 0; area <= 1; area++) {
            boolean isArea = area == 1;
            CoastRadar r = new CoastRadar();
            Checks.refuses(r, "promise 3: u as great as x", Checks.ARGUMENT, () -> r.addPlace(isArea, 7, 0, 7, 5));
            Checks.refuses(r, "promise 3: u less than x", Checks.ARGUMENT, () -> r.addPlace(isArea, 7, 0, 6, 5));
            Checks.refuses(r, "promise 3: v as great as y", Checks.ARGUMENT, () -> r.addPlace(isArea, 0, -7, 5, -7));
            Checks.refuses(r, "promise 3: v less than y", Checks.ARGUMENT, () -> r.addPlace(isArea, 0, -7, 5, -8));
            Checks.refuses(r, "promise 3: a place twice", Checks.ARGUMENT, () -> r.addPlace(isArea, 9999, 9999, 9999, 9999));
            Checks.equal("promise 3: u and v greater by 1", r.addPlace(isArea, 7, -7, 8, -6), 0);
        }
    }

    /** Terms: "at most 10 pieces of land". */
    private static void tenPiecesOfLand() {
        CoastRadar r = new CoastRadar();
        r.addStation(0, 0, 20000);
        for (int i = 0; i < 10; i++) {
            Checks.equal("promise 3: land " + i, r.addPlace(false, 100 * i, 10, 100 * i + 50, 20), i);
            Checks.equal("promise 3: pieces of land", r.count(1), i + 1);
        }
        Checks.refuses(r, "promise 3: land 10", Checks.STATE, () -> r.addPlace(false, -100, 10, -50, 20));
        Checks.isTrue("the refused piece hides nothing", r.sees(0, -90, 15));
        for (int i = 0; i < 10; i++) {
            Checks.isFalse("land " + i + " hides", r.sees(0, 100 * i + 20, 15));
        }
        Checks.equal("promise 3: there is room for areas", r.addPlace(true, 0, 0, 1, 1), 0);
    }

    /** Terms, step 8: "There are at most 6, rectangles like land." */
    private static void sixAreas() {
        CoastRadar r = new CoastRadar();
        for (int i = 0; i < 6; i++) {
            Checks.refuses(r, "promise 17: the area " + i + " ahead of it", Checks.BOUNDS, insideOf(r, i));
            Checks.equal("promise 3: area " + i, r.addPlace(true, i, i, i + 1, i + 1), i);
            Checks.equal("promise 3: areas", r.count(2), i + 1);
        }
        Checks.refuses(r, "promise 3: area 6", Checks.STATE, () -> r.addPlace(true, 0, 0, 1, 1));
        Checks.equal("promise 17: the last area", r.inside(5), 0);
        Checks.refuses(r, "promise 17: area 6", Checks.BOUNDS, () -> r.inside(6));
        Checks.equal("promise 3: there is room for land", r.addPlace(false, 0, 0, 1, 1), 0);
    }

    private static Checks.Call insideOf(CoastRadar r, int area) {
        return () -> r.inside(area);
    }

    /** Promise 3: "Returns its number (land and areas are numbered by themselves)." */
    private static void landAndAreasAreNumberedByThemselves() {
        CoastRadar r = new CoastRadar();
        for (int i = 0; i < 6; i++) {
            Checks.equal("promise 3: land", r.addPlace(false, i, 0, 10, 10), i);
            Checks.equal("promise 3: area", r.addPlace(true, i, 0, 10, 10), i);
        }
        Checks.equal("promise 3: pieces of land", r.count(1), 6);
        Checks.equal("promise 3: areas", r.count(2), 6);
    }

    /** Promise 4: IllegalArgumentException "if x or y is not -9999 to 9999". */
    private static void placeThatIsSeen() {
        CoastRadar r = Checks.stations(1);
        for (int[] p : PLACES) {
            Checks.isTrue("promise 4: " + p[0] + ", " + p[1], r.sees(0, p[0], p[1]));
        }
        for (int[] p : NO_PLACES) {
            Checks.refuses(r, "promise 4: " + p[0] + ", " + p[1], Checks.ARGUMENT, () -> r.sees(0, p[0], p[1]) ? 1 : 0);
        }
    }

    /** Promise 4: IndexOutOfBoundsException "if there is no such station". */
    private static void noSuchStation() {
        for (int stations = 1; stations <= 4; stations++) {
            CoastRadar r = Checks.stations(stations);
            Checks.isTrue("promise 4: the first station", r.sees(0, 1, 1));
            Checks.isTrue("promise 4: the last station", r.sees(stations - 1, 1, 1));
            for (int wrong : new int[] {-1, stations, 4, MIN, MAX}) {
                Checks.refuses(r, "promise 4: station " + wrong, Checks.BOUNDS, () -> r.sees(wrong, 1, 1) ? 1 : 0);
            }
        }
    }

    /** Terms: "if the square of both is greater than that of its range"; one that is just as great is seen. */
    private static void squareOfTheRange() {
        int[][] rows = {{5, 3, 4, 1}, {5, 4, 4, 0}, {5, -3, -4, 1}, {5, -3, -5, 0}, {5, 5, 0, 1}, {5, 5, 1, 0}, {5, 0, -5, 1}, {5, 0, -6, 0},
            {1, 0, 0, 1}, {1, 1, 0, 1}, {1, 1, 1, 0}, {1, -1, 0, 1}, {1, -2, 0, 0}, {2, 1, 1, 1}, {6500, 2500, 6000, 1}, {6500, 2500, 6001, 0},
            {9999, 9999, 0, 1}, {9999, 9999, 1, 0}};
        for (int[] row : rows) {
            CoastRadar r = new CoastRadar();
            r.addStation(0, 0, row[0]);
            Checks.equal("range " + row[0] + ", place " + row[1] + ", " + row[2], r.sees(0, row[1], row[2]) ? 1 : 0, row[3]);
        }
        CoastRadar far = new CoastRadar();
        far.addStation(-9999, -9999, 20000);
        Checks.isTrue("range 20000, 12000 and 16000 away", far.sees(0, 2001, 6001));
        Checks.isFalse("range 20000, 12001 and 16000 away", far.sees(0, 2002, 6001));
        Checks.isFalse("range 20000, 12000 and 16001 away", far.sees(0, 2001, 6002));
        Checks.isFalse("range 20000, the other corner of all", far.sees(0, 9999, 9999));
    }

    /** A radar with a station that sees far, and one piece of land. */
    private static CoastRadar land(int stationX, int stationY, int x, int y, int u, int v) {
        CoastRadar r = new CoastRadar();
        r.addStation(stationX, stationY, 20000);
        r.addPlace(false, x, y, u, v);
        return r;
    }

    /** Terms: "a place on the line between both (also at one of the ends)". */
    private static void oneEndInLand() {
        Checks.isFalse("the place is the one place in land", land(5, 1, 0, 0, 2, 2).sees(0, 1, 1));
        Checks.isFalse("the station is there", land(1, 1, 0, 0, 2, 2).sees(0, 5, 1));
        Checks.isFalse("both are there", land(1, 1, 0, 0, 2, 2).sees(0, 1, 1));
        Checks.isFalse("it is between both", land(-3, 1, 0, 0, 2, 2).sees(0, 5, 1));
        Checks.isTrue("the place is ahead of land", land(-3, 1, 0, 0, 2, 2).sees(0, -1, 1));
        Checks.isTrue("the place is at the near side", land(-3, 1, 0, 0, 2, 2).sees(0, 0, 1));
        Checks.isFalse("the place is at the far side", land(-3, 1, 0, 0, 2, 2).sees(0, 2, 1));
        Checks.isTrue("the station is at a side and looks away", land(0, 1, 0, 0, 2, 2).sees(0, -5, 1));
        Checks.isTrue("the station is at a side and looks at itself", land(0, 1, 0, 0, 2, 2).sees(0, 0, 1));
        Checks.isFalse("the station is at a side and looks in", land(0, 1, 0, 0, 2, 2).sees(0, 1, 1));
        Checks.isTrue("the station is at a corner and looks away", land(2, 2, 0, 0, 2, 2).sees(0, 5, 5));
        Checks.isFalse("the station is at a corner and looks in", land(2, 2, 0, 0, 2, 2).sees(0, 1, 1));
    }

    /** Terms: "greater than those of the first corner and less than those of the second one": sides are not inside. */
    private static void greaterAndLessThanTheCorners() {
        int[][] rows = {{-5, 10, 5, 10, 1}, {-5, 11, 5, 11, 0}, {-5, 19, 5, 19, 0}, {-5, 20, 5, 20, 1}, {-4, 0, -4, 30, 1}, {-3, 0, -3, 30, 0},
            {3, 0, 3, 30, 0}, {4, 0, 4, 30, 1}, {5, 10, -5, 10, 1}, {5, 11, -5, 11, 0}, {4, 30, 4, 0, 1}, {3, 30, 3, 0, 0},
            {-4, 12, -4, 18, 1}, {-2, 10, 2, 10, 1}, {-2, 20, 2, 20, 1}, {4, 10, 4, 20, 1}};
        for (int[] row : rows) {
            CoastRadar r = land(row[0], row[1], -4, 10, 4, 20);
            String line = "land -4, 10 to 4, 20; the line " + row[0] + ", " + row[1] + " to " + row[2] + ", " + row[3];
            Checks.equal(line, r.sees(0, row[2], row[3]) ? 1 : 0, row[4]);
        }
    }

    /** Terms: "its x and y (fractions, too)": land of 1 by 1 has fractions alone inside. */
    private static void fractionsInLand() {
        int[][] rows = {{0, 0, 1, 1, 0}, {1, 1, 0, 0, 0}, {0, 1, 1, 0, 0}, {0, 0, 1, 0, 1}, {0, 0, 0, 1, 1}, {0, 1, 1, 1, 1}, {1, 0, 1, 1, 1},
            {0, 0, 2, 1, 0}, {0, 0, 1, 2, 0}, {-1, 0, 2, 1, 0}, {-1, 0, 1, 1, 0}, {0, 0, 1, 5, 0}, {0, 0, 5, 1, 0}, {0, 0, 0, 0, 1}, {1, 1, 1, 1, 1},
            {0, 0, -1, -1, 1}, {1, 1, 2, 2, 1}, {-1, 0, 0, 1, 1}, {1, 0, 2, 1, 1}, {-1, -1, 2, 2, 0}, {-1, 2, 2, -1, 0}, {-9999, 0, 9999, 1, 0}};
        for (int[] row : rows) {
            CoastRadar r = land(row[0], row[1], 0, 0, 1, 1);
            String line = "land 0, 0 to 1, 1; the line " + row[0] + ", " + row[1] + " to " + row[2] + ", " + row[3];
            Checks.equal(line, r.sees(0, row[2], row[3]) ? 1 : 0, row[4]);
        }
    }

    /** Terms, the same: a line through a corner is not inside; one that passes it by a fraction on the inner hand is. */
    private static void cornersOfLand() {
        int[][] rows = {{-1, 0, 1, 2, 1}, {0, -1, 2, 1, 1}, {-1, 1, 1, -1, 1}, {0, 2, 2, 0, 1}, {-1, 0, 2, 2, 0}, {-1, 0, 2, 3, 1},
            {-1, 0, 1000, 1001, 1}, {-1, 0, 1000, 1000, 0}, {-1, 0, 1000, 1002, 1}, {0, -1, 1001, 1000, 1}, {0, -1, 1000, 1000, 0}, {0, -1, 1002, 1000, 1},
            {-4999, 5000, 4999, -4999, 0}, {-4999, 5000, 5000, -4999, 0}, {-4999, 4999, 5000, -5000, 1}, {-4999, 4999, 5000, -4999, 0}};
        for (int[] row : rows) {
            CoastRadar r = land(row[0], row[1], 0, 0, 1, 1);
            String line = "land 0, 0 to 1, 1; the line " + row[0] + ", " + row[1] + " to " + row[2] + ", " + row[3];
            Checks.equal(line, r.sees(0, row[2], row[3]) ? 1 : 0, row[4]);
        }
    }

    /** Terms, the same: the side that two pieces of land share is inside of neither. */
    private static void betweenTwoPieces() {
        CoastRadar r = land(10, -50, 0, 0, 10, 10);
        r.addPlace(false, 10, 0, 20, 10);
        Checks.isTrue("along the side of both", r.sees(0, 10, 50));
        Checks.isFalse("aslant through the first one", r.sees(0, 9, 50));
        Checks.isFalse("aslant through the second one", r.sees(0, 11, 50));
        CoastRadar s = land(0, -50, -5, 0, 5, 10);
        s.addPlace(false, -5, 20, 5, 30);
        Checks.isTrue("ahead of the first one", s.sees(0, 0, 0));
        Checks.isFalse("between both, behind the first one", s.sees(0, 0, 15));
        for (int i = 2; i < 10; i++) {
            s.addPlace(false, 1000 + i, 0, 2000 + i, 10);
        }
        Checks.isTrue("beside all pieces", s.sees(0, -500, 5));
        Checks.isFalse("in the last piece alone", s.sees(0, 2008, 9));
    }

    /** Terms, the same, with the greatest rectangle that there is. */
    private static void landEverywhere() {
        CoastRadar r = land(-9999, -9999, -9999, -9999, 9999, 9999);
        Checks.isTrue("along its side, x", r.sees(0, 9999, -9999));
        Checks.isTrue("along its side, y", r.sees(0, -9999, 9999));
        Checks.isTrue("its corner", r.sees(0, -9999, -9999));
        Checks.isFalse("one place inside of it", r.sees(0, -9998, -9998));
        Checks.isFalse("through it to another side", r.sees(0, 2001, 6001));
        Checks.isFalse("a station in it does not see itself", land(0, 0, -9999, -9999, 9999, 9999).sees(0, 0, 0));
    }

    /** Terms: "a place on the line between both": what is behind the place, or the station, hides nothing. */
    private static void landBehindThePlace() {
        Checks.isTrue("land behind the place", land(0, 0, 50, 40, 60, 60).sees(0, 49, 49));
        Checks.isTrue("land behind the station", land(0, 0, 50, 40, 60, 60).sees(0, -49, -49));
        Checks.isFalse("the line ends in land", land(0, 0, 50, 40, 60, 60).sees(0, 51, 51));
        int[][] away = {{1, 1}, {-1, 1}, {1, -1}, {-1, -1}};
        for (int[] a : away) {
            // Land from 50 to 60, or from -60 to -50, by x and by y; the line goes on to it, and beyond it.
            CoastRadar r = land(0, 0, a[0] > 0 ? 50 : -60, a[1] > 0 ? 50 : -60, a[0] > 0 ? 60 : -50, a[1] > 0 ? 60 : -50);
            String where = ", land at " + 50 * a[0] + ", " + 50 * a[1];
            Checks.isTrue("ahead of land" + where, r.sees(0, 49 * a[0], 49 * a[1]));
            Checks.isTrue("at its corner" + where, r.sees(0, 50 * a[0], 50 * a[1]));
            Checks.isFalse("one place in it" + where, r.sees(0, 51 * a[0], 51 * a[1]));
            Checks.isTrue("the other way, x" + where, r.sees(0, -40 * a[0], 40 * a[1]));
            Checks.isTrue("the other way, y" + where, r.sees(0, 40 * a[0], -40 * a[1]));
            Checks.isTrue("the other way" + where, r.sees(0, -40 * a[0], -40 * a[1]));
        }
        Checks.isTrue("land in both ranges, aside of the line", land(0, 0, 50, 0, 60, 10).sees(0, 60, 60));
        Checks.isTrue("land in both ranges, aside on the other hand", land(0, 0, 0, 50, 10, 60).sees(0, 60, 60));
    }

    /** Promise 5: IllegalArgumentException "if x or y is not -9999 to 9999". */
    private static void placeOfALevel() {
        CoastRadar r = new CoastRadar();
        for (int[] p : PLACES) {
            Checks.equal("promise 5: level(" + p[0] + ", " + p[1] + ")", r.level(p[0], p[1]), 0);
        }
        for (int[] p : NO_PLACES) {
            Checks.refuses(r, "promise 5: level(" + p[0] + ", " + p[1] + ")", Checks.ARGUMENT, () -> r.level(p[0], p[1]));
        }
    }

    /** Terms: "the same x / 1000 and y / 1000, both cut downwards". */
    private static void fieldsAreCutDownwards() {
        int[][] fields = {{0, 999}, {-1000, -1}, {1000, 1999}, {-2000, -1001}, {9000, 9999}, {-9999, -9001}, {-9000, -8001}, {8000, 8999}};
        for (int[] x : fields) {
            for (int[] y : fields) {
                CoastRadar r = Checks.radar(1, 0);
                Checks.sweep(r, 1, x[0], y[1]);
                String field = "the field of " + x[0] + ", " + y[1] + " at ";
                Checks.equal(field + "its least place", r.level(x[0], y[0]), 3);
                Checks.equal(field + "its greatest place", r.level(x[1], y[1]), 3);
                Checks.equal(field + "its other corner", r.level(x[1], y[0]), 3);
                noneBeside(r, field, x, y);
            }
        }
    }

    /** Terms: "Each field of 1000 by 1000": no two of them share a level. */
    private static void eachFieldHasItsOwnLevel() {
        int[][] places = {{0, 0}, {-9999, 9999}, {9999, 9999}, {-9999, -9999}, {4500, -3500}};
        for (int[] p : places) {
            CoastRadar r = Checks.radar(1, 0);
            Checks.sweep(r, 1, p[0], p[1]);
            int sum = 0;
            for (int column = -10; column <= 9; column++) {
                for (int row = -10; row <= 9; row++) {
                    sum += r.level(1000 * column + 1, 1000 * row + 1);
                }
            }
            Checks.equal("the levels of all fields, a blip at " + p[0] + ", " + p[1], sum, 3);
            Checks.equal("the level of its own", r.level(p[0], p[1]), 3);
        }
    }

    private static void noneBeside(CoastRadar r, String field, int[] x, int[] y) {
        if (x[0] > -9999) {
            Checks.equal(field + "x less", r.level(x[0] - 1, y[0]), 0);
        }
        if (x[1] < 9999) {
            Checks.equal(field + "x greater", r.level(x[1] + 1, y[1]), 0);
        }
        if (y[0] > -9999) {
            Checks.equal(field + "y less", r.level(x[1], y[0] - 1), 0);
        }
        if (y[1] < 9999) {
            Checks.equal(field + "y greater", r.level(x[0], y[1] + 1), 0);
        }
    }

    /** Terms: a field "has a level, 0 to 60, at first 0". */
    private static void atFirstNoLevel() {
        CoastRadar r = new CoastRadar();
        for (int column = -10; column <= 9; column++) {
            for (int row = -10; row <= 9; row++) {
                Checks.equal("promise 5: a new level", r.level(1000 * column + 1, 1000 * row + 1), 0);
            }
        }
        CoastRadar s = Checks.stations(1);
        Checks.equal("the least strength is greater than it", s.report(0, 5, 5, 1), 0);
    }

    /** Terms: "the blur (0 to 500, at first 100)"; at first: EdgeBlipTest. */
    private static void blurLimits() {
        CoastRadar r = new CoastRadar();
        for (int wrong : new int[] {-1, 501, MIN, MAX}) {
            Checks.refuses(r, "promise 6: the blur " + wrong, Checks.ARGUMENT, () -> r.tune(wrong, 300, 8, 4));
        }
        Checks.equal("promise 6: the blur 0", r.tune(0, 300, 8, 4), 300);
        Checks.equal("promise 6: the blur 500", r.tune(500, 300, 8, 4), 300);
    }

    /** Terms: "the gate is 1 to 2000, at first 300". */
    private static void gateLimits() {
        CoastRadar r = new CoastRadar();
        for (int wrong : new int[] {0, 2001, -1, MIN, MAX}) {
            Checks.refuses(r, "promise 6: the gate " + wrong, Checks.ARGUMENT, () -> r.tune(100, wrong, 8, 4));
        }
        Checks.equal("promise 6: the gate is at first 300", r.tune(100, 1, 8, 4), 300);
        Checks.equal("promise 6: the gate 1", r.tune(100, 2000, 8, 4), 1);
        Checks.equal("promise 6: the gate 2000", r.tune(100, 300, 8, 4), 2000);
    }

    /** Terms: "a and b are 0 to 16, at first 8 and 4"; at first: EdgeSweepTest. */
    private static void shareLimits() {
        CoastRadar r = new CoastRadar();
        for (int wrong : new int[] {-1, 17, MIN, MAX}) {
            Checks.refuses(r, "promise 6: a = " + wrong, Checks.ARGUMENT, () -> r.tune(100, 300, wrong, 4));
            Checks.refuses(r, "promise 6: b = " + wrong, Checks.ARGUMENT, () -> r.tune(100, 300, 8, wrong));
        }
        Checks.equal("promise 6: a and b are 0", r.tune(100, 300, 0, 0), 300);
        Checks.equal("promise 6: a and b are 16", r.tune(100, 300, 16, 16), 300);
    }

    /** Promise 6: "Returns the gate before." */
    private static void tuneTellsTheGateBefore() {
        CoastRadar r = new CoastRadar();
        Checks.equal("promise 6: the gate before the first call", r.tune(0, 7, 0, 0), 300);
        Checks.refuses(r, "promise 6: a wrong call between both", Checks.ARGUMENT, () -> r.tune(0, 8, 0, 17));
        Checks.equal("promise 6: the gate before the second call", r.tune(0, 7, 0, 0), 7);
        Checks.equal("promise 6: the same gate twice", r.tune(0, 9, 0, 0), 7);
    }
}
