/** A coastal radar that knows no ships' names. */
public final class CoastRadar {
    private static final int PLACE_LIMIT = 9999;
    private static final int RANGE_LIMIT = 20000;
    private static final int STATION_LIMIT = 4;
    private static final int LAND_LIMIT = 10;
    private static final int AREA_LIMIT = 6;
    private static final int BOX_ROOM = 10;
    private static final int BLIP_LIMIT = 10;
    private static final int STRENGTH_LIMIT = 99;
    private static final int TRACK_LIMIT = 10;
    private static final int EVENT_LIMIT = 120;
    private static final int SWEEP_LIMIT = 500;
    private static final int TICK_LIMIT = 60;
    private static final int DANGER_LIMIT = 5000;
    private static final int PATH_LENGTH = 12;
    private static final int NEARNESS_TICKS = 300;

    private static final int BLUR_LIMIT = 500;
    private static final int GATE_LIMIT = 2000;
    private static final int SHARE_LIMIT = 16;
    private static final int GATE_PER_MISS = 40;

    private static final int FIELD_SIDE = 1000;
    private static final int FIELDS_PER_SIDE = 20;
    private static final int LEVEL_LIMIT = 60;

    private static final int SUB_BITS = 4;
    private static final int SUB = 1 << SUB_BITS;
    private static final int SPEED_LIMIT = 16384;
    private static final int SPEED_UNIT_SQUARE = 65536;

    private static final int NEW = 0;
    private static final int FIRM = 1;
    private static final int COASTING = 2;
    private static final int JOINS_TO_BE_FIRM = 3;
    private static final int MISSES_TO_END = 2;
    private static final int MISSES_TO_BE_LOST = 5;

    private static final int LOST_SWEEPS = 12;
    /** A sweep loses ten tracks at most, and those of the sweep itself are kept beside those of the last twelve. */
    private static final int LOST_ROOM = TRACK_LIMIT * (LOST_SWEEPS + 1);

    private static final int BEGINS = 0;
    private static final int BECOMES_FIRM = 1;
    private static final int COASTS = 2;
    private static final int IS_LOST = 3;
    private static final int FIRM_AGAIN = 4;
    private static final int KNOWN_AGAIN = 5;
    private static final int CROSSES = 6;
    private static final int ENTERS = 7;
    private static final int LEAVES = 8;

    private static final int COUNT_KINDS = 11;
    private static final int TRACK_KINDS = 8;
    private static final int BLIP_KINDS = 5;
    private static final int EVENT_KINDS = 4;
    private static final int NAMES_IN_A_SET = 31;

    private final Scene now = new Scene();
    private final Scene kept = new Scene();
    private final Joining joining = new Joining();
    private boolean isKept = false;

    /** Creates a radar without stations, land, areas and tracks. */
    public CoastRadar() {
    }

    // ---- the coast

    /** Adds a station and returns its number. */
    public int addStation(int x, int y, int range) throws IllegalArgumentException, IllegalStateException {
        if (!isPlace(x, y) || !isWithin(range, 1, RANGE_LIMIT)) {
            throw new IllegalArgumentException("a station needs a place and a range of 1 to 20000");
        }
        if (now.coast.stations >= STATION_LIMIT) {
            throw new IllegalStateException("there are 4 stations already");
        }
        return now.coast.putStation(x, y, range);
    }

    /** Adds a piece of land, or an area, and returns its number. */
    public int addPlace(boolean isArea, int x, int y, int u, int v)
            throws IllegalArgumentException, IllegalStateException {
        if (!isPlace(x, y) || !isPlace(u, v) || u <= x || v <= y) {
            throw new IllegalArgumentException("a rectangle goes from a place to a greater one");
        }
        Boxes boxes = isArea ? now.coast.areas : now.coast.land;
        if (boxes.size >= (isArea ? AREA_LIMIT : LAND_LIMIT)) {
            throw new IllegalStateException("there are 10 pieces of land, or 6 areas, already");
        }
        return boxes.put(x, y, u, v);
    }

    /** Returns whether a station sees a place. */
    public boolean sees(int station, int x, int y) throws IndexOutOfBoundsException, IllegalArgumentException {
        if (!isWithin(station, 0, now.coast.stations - 1)) {
            throw new IndexOutOfBoundsException("there is no such station");
        }
        if (!isPlace(x, y)) {
            throw new IllegalArgumentException("x and y are -9999 to 9999");
        }
        return now.coast.isInSight(station, x, y);
    }

    /** Returns the level of clutter in the field of a place. */
    public int level(int x, int y) throws IllegalArgumentException {
        if (!isPlace(x, y)) {
            throw new IllegalArgumentException("x and y are -9999 to 9999");
        }
        return now.coast.clutterAt(x, y);
    }

    /** Sets how blips are joined, and returns the gate before. */
    public int tune(int blur, int gate, int a, int b) throws IllegalArgumentException {
        if (!isWithin(blur, 0, BLUR_LIMIT) || !isWithin(gate, 1, GATE_LIMIT)) {
            throw new IllegalArgumentException("the blur is 0 to 500, the gate 1 to 2000");
        }
        if (!isWithin(a, 0, SHARE_LIMIT) || !isWithin(b, 0, SHARE_LIMIT)) {
            throw new IllegalArgumentException("a and b are 0 to 16");
        }
        int gateBefore = now.gate;
        now.blur = blur;
        now.gate = gate;
        now.placeShare = a;
        now.speedShare = b;
        return gateBefore;
    }

    // ---- blips and sweeps

    /** Reports a blip; returns 0 if it waits, otherwise why it is refused. */
    public int report(int station, int x, int y, int strength)
            throws IndexOutOfBoundsException, IllegalArgumentException {
        if (!isWithin(station, 0, now.coast.stations - 1)) {
            throw new IndexOutOfBoundsException("there is no such station");
        }
        if (!isPlace(x, y) || !isWithin(strength, 1, STRENGTH_LIMIT)) {
            throw new IllegalArgumentException("a blip needs a place and a strength of 1 to 99");
        }
        return now.takeBlip(station, x, y, strength);
    }

    /** Returns what is asked about a blip that waits, or, if none does, of the latest sweep. */
    public int blip(int blip, int what) throws IndexOutOfBoundsException {
        if (!isWithin(blip, 0, now.blips.size - 1) || !isWithin(what, 0, BLIP_KINDS - 1)) {
            throw new IndexOutOfBoundsException("there is no such blip, or what is not 0 to 4");
        }
        return now.blips.tell(blip, what);
    }

    /** Does a sweep with all blips that wait, and returns how many were joined. */
    public int sweep(int dt) throws IllegalArgumentException, IllegalStateException {
        if (!isWithin(dt, 1, TICK_LIMIT)) {
            throw new IllegalArgumentException("dt is 1 to 60");
        }
        if (now.sweeps >= SWEEP_LIMIT) {
            throw new IllegalStateException("there were 500 sweeps");
        }
        return now.passOver(dt, joining);
    }

    /** Returns how many there are of what is asked for. */
    public int count(int what) throws IndexOutOfBoundsException {
        if (!isWithin(what, 0, COUNT_KINDS - 1)) {
            throw new IndexOutOfBoundsException("what is 0 to 10");
        }
        return now.tellCount(what);
    }

    // ---- tracks

    /** Returns the name of a track, by its index in ascending order of names. */
    public int name(int index) throws IndexOutOfBoundsException {
        if (!isWithin(index, 0, now.trackCount - 1)) {
            throw new IndexOutOfBoundsException("there is no such track");
        }
        return now.tracks[index].name;
    }

    /** Returns what is asked about a track. */
    public int track(int name, int what) throws IndexOutOfBoundsException {
        Track found = now.find(name);
        if (found == null || !isWithin(what, 0, TRACK_KINDS - 1)) {
            throw new IndexOutOfBoundsException("there is no track with this name, or what is not 0 to 7");
        }
        return found.tell(what);
    }

    /** Returns x or y, in sixteenths, of where a track was some sweeps back. */
    public int path(int name, int back, boolean isX) throws IndexOutOfBoundsException {
        Track found = now.find(name);
        if (found == null || !isWithin(back, 0, PATH_LENGTH - 1) || back >= found.age) {
            throw new IndexOutOfBoundsException("there is no such track, or its path does not go so far back");
        }
        return isX ? found.pathX[back] : found.pathY[back];
    }

    /** Returns the square of the length of a track's speed, in places per tick. */
    public double speed(int name) throws IndexOutOfBoundsException {
        Track found = now.find(name);
        if (found == null) {
            throw new IndexOutOfBoundsException("there is no track with this name");
        }
        return (double) square(found.speedX, found.speedY) / (double) SPEED_UNIT_SQUARE;
    }

    /** Returns the least square of two tracks from now on, in sixteenths. */
    public long nearest(int a, int b) throws IndexOutOfBoundsException {
        Track first = now.find(a);
        Track second = now.find(b);
        if (first == null || second == null) {
            throw new IndexOutOfBoundsException("there is no track with this name");
        }
        return first.leastSquareTo(second);
    }

    /** Returns how many pairs of firm tracks come as near to each other as a limit, or nearer. */
    public int dangers(int limit) throws IllegalArgumentException {
        if (!isWithin(limit, 0, DANGER_LIMIT)) {
            throw new IllegalArgumentException("the limit is 0 to 5000");
        }
        return now.countDangers(square(SUB * limit, 0));
    }

    /** Returns the set of the names below 31 of the firm tracks in an area. */
    public int inside(int area) throws IndexOutOfBoundsException {
        if (!isWithin(area, 0, now.coast.areas.size - 1)) {
            throw new IndexOutOfBoundsException("there is no such area");
        }
        return now.namesInArea(area);
    }

    /** Returns what is asked about an event that is kept, the oldest one being 0. */
    public int event(int index, int what) throws IndexOutOfBoundsException {
        if (!isWithin(index, 0, now.events.keptCount() - 1) || !isWithin(what, 0, EVENT_KINDS - 1)) {
            throw new IndexOutOfBoundsException("there is no such event, or what is not 0 to 3");
        }
        return now.events.tell(index, what);
    }

    // ---- marks

    /** Keeps all as it is, and returns the number of sweeps. */
    public int mark() {
        kept.copyFrom(now);
        isKept = true;
        return now.sweeps;
    }

    /** Brings all back as it was kept, and returns the number of sweeps then. */
    public int restore() throws IllegalStateException {
        if (!isKept) {
            throw new IllegalStateException("nothing was kept");
        }
        now.copyFrom(kept);
        return now.sweeps;
    }

    /** Computes a checksum over all that can be asked for. */
    public long digest() {
        long d = 431;
        for (int what = 0; what < COUNT_KINDS; what++) {
            d = d * 31 + now.tellCount(what);
        }
        for (int i = 0; i < now.trackCount; i++) {
            d = d * 31 + now.tracks[i].name;
            for (int what = 0; what < TRACK_KINDS; what++) {
                d = d * 31 + now.tracks[i].tell(what);
            }
        }
        for (int i = 0; i < now.blips.size; i++) {
            for (int what = 0; what < BLIP_KINDS; what++) {
                d = d * 31 + now.blips.tell(i, what);
            }
        }
        int events = now.events.keptCount();
        for (int i = 0; i < events; i++) {
            for (int what = 0; what < EVENT_KINDS; what++) {
                d = d * 31 + now.events.tell(i, what);
            }
        }
        for (int area = 0; area < now.coast.areas.size; area++) {
            d = d * 31 + now.namesInArea(area);
        }
        return d;
    }

    // ---- numbers

    private static boolean isWithin(int value, int least, int greatest) {
        return value >= least && value <= greatest;
    }

    private static boolean isPlace(int x, int y) {
        return isWithin(x, -PLACE_LIMIT, PLACE_LIMIT) && isWithin(y, -PLACE_LIMIT, PLACE_LIMIT);
    }

    /** The square of two places, by the differences of their x and of their y. */
    private static long square(long dx, long dy) {
        return dx * dx + dy * dy;
    }

    /** The nearest number to a quotient by a divisor above 0; of two the greater one. */
    private static int roundedQuotient(int number, int divisor) {
        return (int) Math.floorDiv(2L * number + divisor, 2L * divisor);
    }

    /** How far a speed in 256ths goes in some ticks, in sixteenths. */
    private static int way(int speed, int ticks) {
        return (speed * ticks + SUB / 2) >> SUB_BITS;
    }

    private static boolean isInSet(int set, int number) {
        return (set >> number & 1) != 0;
    }

    private static void copyRow(int[] from, int[] to) {
        System.arraycopy(from, 0, to, 0, Math.min(from.length, to.length));
    }

    /** Rectangles: all pieces of land, or all areas. */
    private static final class Boxes {
        final int[] lowX = new int[BOX_ROOM];
        final int[] lowY = new int[BOX_ROOM];
        final int[] highX = new int[BOX_ROOM];
        final int[] highY = new int[BOX_ROOM];
        int size = 0;

        int put(int x, int y, int u, int v) {
            int i = size;
            if (i >= BOX_ROOM) {
                return -1;
            }
            lowX[i] = x;
            lowY[i] = y;
            highX[i] = u;
            highY[i] = v;
            size = i + 1;
            return i;
        }

        /** Whether a place in sixteenths is in the box, its sides included. */
        boolean holds(int i, int x, int y) {
            return isWithin(x, SUB * lowX[i], SUB * highX[i]) && isWithin(y, SUB * lowY[i], SUB * highY[i]);
        }

        /** Whether the line between two places has a place inside of the box, its sides not included. */
        boolean isCutBy(int i, int x, int y, int p, int q) {
            if (Math.max(x, p) <= lowX[i] || Math.min(x, p) >= highX[i]) {
                return false;
            }
            if (Math.max(y, q) <= lowY[i] || Math.min(y, q) >= highY[i]) {
                return false;
            }
            if (x == p || y == q) {
                return true;
            }
            // A slanting line that the sides do not keep away is in the box just if it has corners on both hands.
            long a = side(x, y, p, q, lowX[i], lowY[i]);
            long b = side(x, y, p, q, lowX[i], highY[i]);
            long c = side(x, y, p, q, highX[i], lowY[i]);
            long d = side(x, y, p, q, highX[i], highY[i]);
            return Math.min(Math.min(a, b), Math.min(c, d)) < 0 && Math.max(Math.max(a, b), Math.max(c, d)) > 0;
        }

        void copyFrom(Boxes other) {
            copyRow(other.lowX, lowX);
            copyRow(other.lowY, lowY);
            copyRow(other.highX, highX);
            copyRow(other.highY, highY);
            size = other.size;
        }
    }

    /** Above 0 if a place lies on the one hand of the line from x, y to p, q, below 0 on the other, 0 on it. */
    private static long side(int x, int y, int p, int q, int placeX, int placeY) {
        return (long) (p - x) * (placeY - y) - (long) (q - y) * (placeX - x);
    }

    /** Stations, land, areas and clutter. */
    private static final class Coast {
        final int[] stationX = new int[STATION_LIMIT];
        final int[] stationY = new int[STATION_LIMIT];
        final int[] stationRange = new int[STATION_LIMIT];
        int stations = 0;
        final Boxes land = new Boxes();
        final Boxes areas = new Boxes();
        final int[] levels = new int[FIELDS_PER_SIDE * FIELDS_PER_SIDE];

        int putStation(int x, int y, int range) {
            int i = stations;
            if (i >= STATION_LIMIT) {
                return -1;
            }
            stationX[i] = x;
            stationY[i] = y;
            stationRange[i] = range;
            stations = i + 1;
            return i;
        }

        boolean isInSight(int station, int x, int y) {
            int fromX = stationX[station];
            int fromY = stationY[station];
            if (square(x - fromX, y - fromY) > square(stationRange[station], 0)) {
                return false;
            }
            for (int i = 0; i < land.size; i++) {
                if (land.isCutBy(i, fromX, fromY, x, y)) {
                    return false;
                }
            }
            return true;
        }

        int clutterAt(int x, int y) {
            return levels[fieldOf(x, y)];
        }

        void changeClutter(int x, int y, int change) {
            int field = fieldOf(x, y);
            levels[field] = Math.max(0, Math.min(LEVEL_LIMIT, levels[field] + change));
        }

        /** The index of the field of a place, which lies between -9999 and 9999. */
        private static int fieldOf(int x, int y) {
            int column = Math.floorDiv(x, FIELD_SIDE) + FIELDS_PER_SIDE / 2;
            int row = Math.floorDiv(y, FIELD_SIDE) + FIELDS_PER_SIDE / 2;
            return row * FIELDS_PER_SIDE + column;
        }

        void copyFrom(Coast other) {
            copyRow(other.stationX, stationX);
            copyRow(other.stationY, stationY);
            copyRow(other.stationRange, stationRange);
            stations = other.stations;
            land.copyFrom(other.land);
            areas.copyFrom(other.areas);
            copyRow(other.levels, levels);
        }
    }

    /** The blips that wait, or, if none does, those of the latest sweep. */
    private static final class Blips {
        final int[] x = new int[BLIP_LIMIT];
        final int[] y = new int[BLIP_LIMIT];
        final int[] strength = new int[BLIP_LIMIT];
        final int[] seenBy = new int[BLIP_LIMIT];
        final int[] trackName = new int[BLIP_LIMIT];
        int size = 0;
        boolean areWaiting = false;

        int waitingCount() {
            return areWaiting ? size : 0;
        }

        /** The first waiting blip within the blur that the station has not seen yet, or -1. */
        int findToMerge(int station, int px, int py, int blur) {
            int waiting = waitingCount();
            for (int i = 0; i < waiting; i++) {
                if (!isInSet(seenBy[i], station) && square(px - x[i], py - y[i]) <= square(blur, 0)) {
                    return i;
                }
            }
            return -1;
        }

        void merge(int i, int station, int px, int py, int newStrength) {
            x[i] = Math.floorDiv(x[i] + px, 2);
            y[i] = Math.floorDiv(y[i] + py, 2);
            strength[i] = Math.max(strength[i], newStrength);
            seenBy[i] |= 1 << station;
        }

        /** Lets a blip wait; those of the latest sweep make room for the first one. Returns false if there is no room. */
        boolean put(int station, int px, int py, int newStrength) {
            int i = waitingCount();
            if (i >= BLIP_LIMIT) {
                return false;
            }
            x[i] = px;
            y[i] = py;
            strength[i] = newStrength;
            seenBy[i] = 1 << station;
            trackName[i] = -1;
            size = i + 1;
            areWaiting = true;
            return true;
        }

        /** Makes those that wait the ones of the sweep that begins. */
        void startSweep() {
            size = waitingCount();
            areWaiting = false;
        }

        int tell(int i, int what) {
            switch (what) {
                case 0:
                    return x[i];
                case 1:
                    return y[i];
                case 2:
                    return strength[i];
                case 3:
                    return seenBy[i];
                default:
                    return trackName[i];
            }
        }

        void copyFrom(Blips other) {
            copyRow(other.x, x);
            copyRow(other.y, y);
            copyRow(other.strength, strength);
            copyRow(other.seenBy, seenBy);
            copyRow(other.trackName, trackName);
            size = other.size;
            areWaiting = other.areWaiting;
        }
    }

    /** A track; element 0 of its path is its place now, in sixteenths. */
    private static final class Track {
        int name = 0;
        final int[] pathX = new int[PATH_LENGTH];
        final int[] pathY = new int[PATH_LENGTH];
        int speedX = 0;
        int speedY = 0;
        int state = NEW;
        int joined = 0;
        int misses = 0;
        int age = 0;
        /** The blip of the latest sweep to which it was joined, or with which it began, or -1. */
        int blip = -1;
        /** The set of the areas that it was in, being firm, at the end of the latest sweep. */
        int areas = 0;
        boolean hasBecomeFirm = false;

        void begin(int ownName, int x, int y, int firstBlip) {
            name = ownName;
            pathX[0] = x;
            pathY[0] = y;
            speedX = 0;
            speedY = 0;
            state = NEW;
            joined = 1;
            misses = 0;
            age = 1;
            blip = firstBlip;
            areas = 0;
            hasBecomeFirm = false;
        }

        /** Goes on to where it is expected. */
        void expect(int dt) {
            System.arraycopy(pathX, 0, pathX, 1, PATH_LENGTH - 1);
            System.arraycopy(pathY, 0, pathY, 1, PATH_LENGTH - 1);
            pathX[0] += way(speedX, dt);
            pathY[0] += way(speedY, dt);
            age++;
            blip = -1;
            hasBecomeFirm = false;
        }

        /** Moves from where it is expected towards a blip, both in sixteenths. */
        void follow(int x, int y, int placeShare, int speedShare, int dt) {
            int restX = x - pathX[0];
            int restY = y - pathY[0];
            pathX[0] += roundedQuotient(restX * placeShare, SHARE_LIMIT);
            pathY[0] += roundedQuotient(restY * placeShare, SHARE_LIMIT);
            speedX = limitedSpeed(speedX + roundedQuotient(restX * speedShare, dt));
            speedY = limitedSpeed(speedY + roundedQuotient(restY * speedShare, dt));
        }

        private static int limitedSpeed(int speed) {
            return Math.max(-SPEED_LIMIT, Math.min(SPEED_LIMIT, speed));
        }

        /** Counts a join; returns the kind of the event that it makes, or -1. */
        int countJoin() {
            misses = 0;
            joined++;
            if (state == COASTING) {
                state = FIRM;
                return FIRM_AGAIN;
            }
            if (state == NEW && joined >= JOINS_TO_BE_FIRM) {
                state = FIRM;
                hasBecomeFirm = true;
                return BECOMES_FIRM;
            }
            return -1;
        }

        /** Counts a miss; returns the kind of the event that it makes, or -1. */
        int countMiss() {
            misses++;
            if (state == FIRM) {
                state = COASTING;
                return COASTS;
            }
            if (state == COASTING && misses >= MISSES_TO_BE_LOST) {
                return IS_LOST;
            }
            return -1;
        }

        boolean hasEnded() {
            return misses >= (state == NEW ? MISSES_TO_END : MISSES_TO_BE_LOST);
        }

        /** Whether the ways of both in the latest sweep have a place in common. */
        boolean hasCrossed(Track other) {
            return rangesMeet(pathX[0], pathX[1], other.pathX[0], other.pathX[1])
                    && rangesMeet(pathY[0], pathY[1], other.pathY[0], other.pathY[1])
                    && !hasOnOneHand(other)
                    && !other.hasOnOneHand(this);
        }

        /** Whether the whole way of the other one lies on one hand of the line of this way, and not on it. */
        private boolean hasOnOneHand(Track other) {
            long before = side(pathX[1], pathY[1], pathX[0], pathY[0], other.pathX[1], other.pathY[1]);
            long after = side(pathX[1], pathY[1], pathX[0], pathY[0], other.pathX[0], other.pathY[0]);
            return before > 0 && after > 0 || before < 0 && after < 0;
        }

        private static boolean rangesMeet(int a, int b, int c, int d) {
            return Math.max(a, b) >= Math.min(c, d) && Math.max(c, d) >= Math.min(a, b);
        }

        long leastSquareTo(Track other) {
            long least = Long.MAX_VALUE;
            for (int t = 0; t <= NEARNESS_TICKS; t++) {
                int dx = pathX[0] + way(speedX, t) - other.pathX[0] - way(other.speedX, t);
                int dy = pathY[0] + way(speedY, t) - other.pathY[0] - way(other.speedY, t);
                least = Math.min(least, square(dx, dy));
            }
            return least;
        }

        int tell(int what) {
            switch (what) {
                case 0:
                    return pathX[0];
                case 1:
                    return pathY[0];
                case 2:
                    return speedX;
                case 3:
                    return speedY;
                case 4:
                    return state;
                case 5:
                    return joined;
                case 6:
                    return misses;
                default:
                    return age;
            }
        }

        void copyFrom(Track other) {
            name = other.name;
            copyRow(other.pathX, pathX);
            copyRow(other.pathY, pathY);
            speedX = other.speedX;
            speedY = other.speedY;
            state = other.state;
            joined = other.joined;
            misses = other.misses;
            age = other.age;
            blip = other.blip;
            areas = other.areas;
            hasBecomeFirm = other.hasBecomeFirm;
        }
    }

    /** Lost tracks that can be known again. */
    private static final class LostOnes {
        final int[] name = new int[LOST_ROOM];
        final int[] x = new int[LOST_ROOM];
        final int[] y = new int[LOST_ROOM];
        final int[] speedX = new int[LOST_ROOM];
        final int[] speedY = new int[LOST_ROOM];
        final int[] sweep = new int[LOST_ROOM];
        final int[] tick = new int[LOST_ROOM];
        int size = 0;

        void put(Track track, int lostInSweep, int lostAtTick) {
            int i = size;
            if (i >= LOST_ROOM) {
                return;
            }
            name[i] = track.name;
            x[i] = track.pathX[0];
            y[i] = track.pathY[0];
            speedX[i] = track.speedX;
            speedY[i] = track.speedY;
            sweep[i] = lostInSweep;
            tick[i] = lostAtTick;
            size = i + 1;
        }

        /** The one that is expected nearest to a place, at most a square away; of several the smallest name; or -1. */
        int findNearest(int px, int py, int tickNow, long squareLimit) {
            int found = -1;
            long least = 0;
            for (int i = 0; i < size; i++) {
                int ticks = tickNow - tick[i];
                long away = square(x[i] + way(speedX[i], ticks) - px, y[i] + way(speedY[i], ticks) - py);
                if (away > squareLimit) {
                    continue;
                }
                if (found < 0 || away < least || away == least && name[i] < name[found]) {
                    found = i;
                    least = away;
                }
            }
            return found;
        }

        void forget(int i) {
            if (i >= 0 && i < size) {
                size--;
                move(size, i);
            }
        }

        /** Forgets those that were lost ahead of a sweep. */
        void forgetAhead(int firstSweep) {
            int left = 0;
            for (int i = 0; i < size; i++) {
                if (sweep[i] >= firstSweep) {
                    move(i, left);
                    left++;
                }
            }
            size = left;
        }

        private void move(int from, int to) {
            name[to] = name[from];
            x[to] = x[from];
            y[to] = y[from];
            speedX[to] = speedX[from];
            speedY[to] = speedY[from];
            sweep[to] = sweep[from];
            tick[to] = tick[from];
        }

        void copyFrom(LostOnes other) {
            copyRow(other.name, name);
            copyRow(other.x, x);
            copyRow(other.y, y);
            copyRow(other.speedX, speedX);
            copyRow(other.speedY, speedY);
            copyRow(other.sweep, sweep);
            copyRow(other.tick, tick);
            size = other.size;
        }
    }

    /** The latest events; a new one takes the slot of the oldest one. */
    private static final class Events {
        final int[] sweep = new int[EVENT_LIMIT];
        final int[] kind = new int[EVENT_LIMIT];
        final int[] name = new int[EVENT_LIMIT];
        final int[] other = new int[EVENT_LIMIT];
        int noted = 0;

        void note(int inSweep, int ofKind, int ofName, int otherNumber) {
            int slot = noted % EVENT_LIMIT;
            sweep[slot] = inSweep;
            kind[slot] = ofKind;
            name[slot] = ofName;
            other[slot] = otherNumber;
            noted++;
        }

        int keptCount() {
            return Math.min(noted, EVENT_LIMIT);
        }

        int tell(int index, int what) {
            int slot = (noted - keptCount() + index) % EVENT_LIMIT;
            switch (what) {
                case 0:
                    return sweep[slot];
                case 1:
                    return kind[slot];
                case 2:
                    return name[slot];
                default:
                    return other[slot];
            }
        }

        void copyFrom(Events from) {
            copyRow(from.sweep, sweep);
            copyRow(from.kind, kind);
            copyRow(from.name, name);
            copyRow(from.other, other);
            noted = from.noted;
        }
    }

    /** Joins blips to tracks: tells for each track and each set of taken blips how well the tracks from it on can do. */
    private static final class Joining {
        /** More than any sum of squares, so that one more join is always better. */
        private static final long JOIN_WORTH = 1L << 40;
        private static final int SETS = 1 << BLIP_LIMIT;

        /** For each track the set of the blips that can be joined to it. */
        final int[] reach = new int[TRACK_LIMIT];
        final long[] squares = new long[TRACK_LIMIT * BLIP_LIMIT];
        /** The least cost of the tracks from one on, when a set of blips is taken. */
        final long[] costs = new long[(TRACK_LIMIT + 1) * SETS];

        /** Tells each track its blip, or -1, and returns the set of the blips that are joined. */
        int join(Track[] tracks, int trackCount, Blips blips, int gate) {
            for (int i = 0; i < trackCount; i++) {
                measure(i, tracks[i], blips, gate);
            }
            computeCosts(trackCount, 1 << blips.size);
            int taken = 0;
            for (int i = 0; i < trackCount; i++) {
                int blip = firstBest(i, taken);
                tracks[i].blip = blip;
                if (blip >= 0) {
                    taken |= 1 << blip;
                }
            }
            return taken;
        }

        private void measure(int i, Track track, Blips blips, int gate) {
            long limit = square(SUB * (gate + GATE_PER_MISS * track.misses), 0);
            reach[i] = 0;
            for (int b = 0; b < blips.size; b++) {
                long away = square(SUB * blips.x[b] - track.pathX[0], SUB * blips.y[b] - track.pathY[0]);
                squares[i * BLIP_LIMIT + b] = away;
                if (away <= limit) {
                    reach[i] |= 1 << b;
                }
            }
        }

        private void computeCosts(int trackCount, int sets) {
            for (int taken = 0; taken < sets; taken++) {
                costs[trackCount * SETS + taken] = 0;
            }
            for (int i = trackCount - 1; i >= 0; i--) {
                for (int taken = 0; taken < sets; taken++) {
                    // The tracks ahead can't have taken more blips than they are.
                    if (Integer.bitCount(taken) <= i) {
                        costs[i * SETS + taken] = leastCost(i, taken);
                    }
                }
            }
        }

        private long leastCost(int i, int taken) {
            long least = costs[(i + 1) * SETS + taken];
            int free = reach[i] & ~taken;
            for (int b = 0; b < BLIP_LIMIT && free >> b != 0; b++) {
                if (isInSet(free, b)) {
                    least = Math.min(least, costWith(i, taken, b));
                }
            }
            return least;
        }

        private long costWith(int i, int taken, int b) {
            return squares[i * BLIP_LIMIT + b] - JOIN_WORTH + costs[(i + 1) * SETS + (taken | 1 << b)];
        }

        /** The smallest blip with which the least cost is reached; -1 if it is reached with none alone. */
        private int firstBest(int i, int taken) {
            int free = reach[i] & ~taken;
            for (int b = 0; b < BLIP_LIMIT; b++) {
                if (isInSet(free, b) && costWith(i, taken, b) == costs[i * SETS + taken]) {
                    return b;
                }
            }
            return -1;
        }
    }

    /** All that a mark keeps. */
    private static final class Scene {
        final Coast coast = new Coast();
        final Blips blips = new Blips();
        final LostOnes lost = new LostOnes();
        final Events events = new Events();
        /** The first of them, in ascending order of names, are in use. */
        final Track[] tracks = new Track[TRACK_LIMIT];
        int trackCount = 0;
        int blur = 100;
        int gate = 300;
        int placeShare = 8;
        int speedShare = 4;
        int sweeps = 0;
        int ticks = 0;
        int names = 0;

        Scene() {
            for (int i = 0; i < TRACK_LIMIT; i++) {
                tracks[i] = new Track();
            }
        }

        Track find(int name) {
            for (int i = 0; i < trackCount; i++) {
                if (tracks[i].name == name) {
                    return tracks[i];
                }
            }
            return null;
        }

        int takeBlip(int station, int x, int y, int strength) {
            if (!coast.isInSight(station, x, y)) {
                return 1;
            }
            if (strength <= coast.clutterAt(x, y)) {
                return 2;
            }
            int same = blips.findToMerge(station, x, y, blur);
            if (same >= 0) {
                blips.merge(same, station, x, y, strength);
                return 0;
            }
            return blips.put(station, x, y, strength) ? 0 : 3;
        }

        /** Does the eight steps of a sweep, and returns how many blips were joined. */
        int passOver(int dt, Joining joining) {
            blips.startSweep();
            ticks += dt;
            for (int i = 0; i < trackCount; i++) {
                tracks[i].expect(dt);
            }
            int joinedBlips = joining.join(tracks, trackCount, blips, gate);
            updateTracks(dt);
            updateClutter(joinedBlips);
            beginTracks(joinedBlips);
            knowAgain();
            noteCrossings();
            for (int area = 0; area < coast.areas.size; area++) {
                noteArea(area);
            }
            nameBlips();
            sweeps++;
            lost.forgetAhead(sweeps - LOST_SWEEPS);
            return Integer.bitCount(joinedBlips);
        }

        private void updateTracks(int dt) {
            int left = 0;
            for (int i = 0; i < trackCount; i++) {
                Track track = tracks[i];
                int kind = updateTrack(track, dt);
                if (kind >= 0) {
                    events.note(sweeps, kind, track.name, -1);
                }
                if (kind == IS_LOST) {
                    lost.put(track, sweeps, ticks);
                }
                if (!track.hasEnded()) {
                    // Swapped, not moved, so that no track object is in the row twice.
                    tracks[i] = tracks[left];
                    tracks[left] = track;
                    left++;
                }
            }
            trackCount = left;
        }

        /** Returns the kind of the event that it makes, or -1. */
        private int updateTrack(Track track, int dt) {
            int b = track.blip;
            if (b < 0) {
                return track.countMiss();
            }
            track.follow(SUB * blips.x[b], SUB * blips.y[b], placeShare, speedShare, dt);
            return track.countJoin();
        }

        private void updateClutter(int joinedBlips) {
            for (int b = 0; b < blips.size; b++) {
                coast.changeClutter(blips.x[b], blips.y[b], isInSet(joinedBlips, b) ? -1 : 3);
            }
        }

        private void beginTracks(int joinedBlips) {
            for (int b = 0; b < blips.size && trackCount < TRACK_LIMIT; b++) {
                if (!isInSet(joinedBlips, b)) {
                    tracks[trackCount].begin(names, SUB * blips.x[b], SUB * blips.y[b], b);
                    events.note(sweeps, BEGINS, names, -1);
                    trackCount++;
                    names++;
                }
            }
        }

        private void knowAgain() {
            long limit = square(SUB * 4 * gate, 0);
            for (int i = 0; i < trackCount; i++) {
                Track track = tracks[i];
                int found = track.hasBecomeFirm ? lost.findNearest(track.pathX[0], track.pathY[0], ticks, limit) : -1;
                if (found >= 0) {
                    int ownName = track.name;
                    track.name = lost.name[found];
                    lost.forget(found);
                    events.note(sweeps, KNOWN_AGAIN, track.name, ownName);
                }
            }
            sortTracks();
        }

        private void sortTracks() {
            for (int i = 1; i < trackCount; i++) {
                Track track = tracks[i];
                int to = i;
                while (to > 0 && tracks[to - 1].name > track.name) {
                    tracks[to] = tracks[to - 1];
                    to--;
                }
                tracks[to] = track;
            }
        }

        private void noteCrossings() {
            for (int i = 0; i < trackCount; i++) {
                for (int k = i + 1; k < trackCount; k++) {
                    if (areFirm(i, k) && tracks[i].hasCrossed(tracks[k])) {
                        events.note(sweeps, CROSSES, tracks[i].name, tracks[k].name);
                    }
                }
            }
        }

        private boolean areFirm(int i, int k) {
            return tracks[i].state == FIRM && tracks[k].state == FIRM;
        }

        private void noteArea(int area) {
            for (int i = 0; i < trackCount; i++) {
                Track track = tracks[i];
                boolean wasIn = isInSet(track.areas, area);
                boolean isIn = isFirmIn(track, area);
                if (isIn && !wasIn) {
                    events.note(sweeps, ENTERS, track.name, area);
                }
                if (wasIn && !isIn && track.state == FIRM) {
                    events.note(sweeps, LEAVES, track.name, area);
                }
                track.areas = isIn ? track.areas | 1 << area : track.areas & ~(1 << area);
            }
        }

        private boolean isFirmIn(Track track, int area) {
            return track.state == FIRM && coast.areas.holds(area, track.pathX[0], track.pathY[0]);
        }

        private void nameBlips() {
            for (int i = 0; i < trackCount; i++) {
                int b = tracks[i].blip;
                if (b >= 0) {
                    blips.trackName[b] = tracks[i].name;
                }
            }
        }

        int tellCount(int what) {
            switch (what) {
                case 0:
                    return coast.stations;
                case 1:
                    return coast.land.size;
                case 2:
                    return coast.areas.size;
                case 3:
                    return blips.waitingCount();
                case 4:
                    return trackCount;
                case 5:
                    return countFirm();
                case 6:
                    return lost.size;
                case 7:
                    return sweeps;
                case 8:
                    return ticks;
                case 9:
                    return events.noted;
                default:
                    return names;
            }
        }

        private int countFirm() {
            int firm = 0;
            for (int i = 0; i < trackCount; i++) {
                if (tracks[i].state == FIRM) {
                    firm++;
                }
            }
            return firm;
        }

        int countDangers(long squareLimit) {
            int dangers = 0;
            for (int i = 0; i < trackCount; i++) {
                for (int k = i + 1; k < trackCount; k++) {
                    if (areFirm(i, k) && tracks[i].leastSquareTo(tracks[k]) <= squareLimit) {
                        dangers++;
                    }
                }
            }
            return dangers;
        }

        int namesInArea(int area) {
            int set = 0;
            for (int i = 0; i < trackCount; i++) {
                if (tracks[i].name < NAMES_IN_A_SET && isFirmIn(tracks[i], area)) {
                    set |= 1 << tracks[i].name;
                }
            }
            return set;
        }

        void copyFrom(Scene other) {
            coast.copyFrom(other.coast);
            blips.copyFrom(other.blips);
            lost.copyFrom(other.lost);
            events.copyFrom(other.events);
            for (int i = 0; i < TRACK_LIMIT; i++) {
                tracks[i].copyFrom(other.tracks[i]);
            }
            trackCount = other.trackCount;
            blur = other.blur;
            gate = other.gate;
            placeShare = other.placeShare;
            speedShare = other.speedShare;
            sweeps = other.sweeps;
            ticks = other.ticks;
            names = other.names;
        }
    }
}
