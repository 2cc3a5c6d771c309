import java.util.ArrayList;
import java.util.List;

/** The document once more, written in another way than CoastRadar: lists, fractions, shortest paths. */
final class SlowRadar {
    private static final class Box {
        long x, y, u, v;
    }

    private static final class Blip {
        int x, y, strength, seen, track = -1;
        Ship ship;
        boolean joined;

        Blip copy() {
            Blip b = new Blip();
            b.x = x;
            b.y = y;
            b.strength = strength;
            b.seen = seen;
            b.track = track;
            return b;
        }
    }

    private static final class Ship {
        int name, x, y, vx, vy, state, joined, misses;
        int lostSweep, lostTick;
        boolean fresh;
        Blip blip;
        List<int[]> path = new ArrayList<>();
        List<Box> firmIn = new ArrayList<>();

        Ship copy() {
            Ship s = new Ship();
            s.name = name;
            s.x = x;
            s.y = y;
            s.vx = vx;
            s.vy = vy;
            s.state = state;
            s.joined = joined;
            s.misses = misses;
            s.lostSweep = lostSweep;
            s.lostTick = lostTick;
            s.path = new ArrayList<>(path);
            s.firmIn = new ArrayList<>(firmIn);
            return s;
        }
    }

    private List<int[]> stations = new ArrayList<>();
    private List<Box> land = new ArrayList<>();
    private List<Box> areas = new ArrayList<>();
    private java.util.TreeMap<String, Integer> levels = new java.util.TreeMap<>();
    private List<Blip> waiting = new ArrayList<>();
    private List<Blip> swept = new ArrayList<>();
    private List<Ship> ships = new ArrayList<>();
    private List<Ship> lost = new ArrayList<>();
    private List<int[]> events = new ArrayList<>();
    private int blur = 100, gate = 300, a = 8, b = 4, sweeps, ticks, names;
    private SlowRadar kept;

    static boolean bad(int v, int lo, int hi) {
        return v < lo || v > hi;
    }

    static boolean badPlace(int x, int y) {
        return bad(x, -9999, 9999) || bad(y, -9999, 9999);
    }

    int addStation(int x, int y, int range) {
        if (badPlace(x, y) || bad(range, 1, 20000)) throw new IllegalArgumentException();
        if (stations.size() == 4) throw new IllegalStateException();
        stations.add(new int[] {x, y, range});
        return stations.size() - 1;
    }

    int addPlace(boolean isArea, int x, int y, int u, int v) {
        if (badPlace(x, y) || badPlace(u, v) || u <= x || v <= y) throw new IllegalArgumentException();
        List<Box> to = isArea ? areas : land;
        if (to.size() == (isArea ? 6 : 10)) throw new IllegalStateException();
        Box box = new Box();
        box.x = x;
        box.y = y;
        box.u = u;
        box.v = v;
        to.add(box);
        return to.size() - 1;
    }

    boolean sees(int station, int x, int y) {
        if (bad(station, 0, stations.size() - 1)) throw new IndexOutOfBoundsException();
        if (badPlace(x, y)) throw new IllegalArgumentException();
        int[] s = stations.get(station);
        long dx = x - s[0];
        long dy = y - s[1];
        if (dx * dx + dy * dy > (long) s[2] * s[2]) return false;
        for (Box box : land) {
            if (cuts(box, s[0], s[1], dx, dy)) return false;
        }
        return true;
    }

    /** By clipping: the share t of the line has to be above some fractions and below some others. */
    private static boolean cuts(Box box, long sx, long sy, long dx, long dy) {
        List<long[]> above = new ArrayList<>();
        List<long[]> below = new ArrayList<>();
        if (!clip(box.x - sx, box.u - sx, dx, above, below)) return false;
        if (!clip(box.y - sy, box.v - sy, dy, above, below)) return false;
        for (long[] lo : above) {
            if (lo[0] >= lo[1]) return false;
            for (long[] hi : below) {
                if (lo[0] * hi[1] >= hi[0] * lo[1]) return false;
            }
        }
        for (long[] hi : below) {
            if (hi[0] <= 0) return false;
        }
        return true;
    }

    private static boolean clip(long lo, long hi, long d, List<long[]> above, List<long[]> below) {
        if (d == 0) return lo < 0 && 0 < hi;
        if (d > 0) {
            above.add(new long[] {lo, d});
            below.add(new long[] {hi, d});
        } else {
            above.add(new long[] {-hi, -d});
            below.add(new long[] {-lo, -d});
        }
        return true;
    }

    private static String field(int x, int y) {
        return (x + 10000) / 1000 + "/" + (y + 10000) / 1000;
    }

    int level(int x, int y) {
        if (badPlace(x, y)) throw new IllegalArgumentException();
        return levels.getOrDefault(field(x, y), 0);
    }

    int tune(int blur, int gate, int a, int b) {
        if (bad(blur, 0, 500) || bad(gate, 1, 2000) || bad(a, 0, 16) || bad(b, 0, 16)) throw new IllegalArgumentException();
        int before = this.gate;
        this.blur = blur;
        this.gate = gate;
        this.a = a;
        this.b = b;
        return before;
    }

    int report(int station, int x, int y, int strength) {
        if (bad(station, 0, stations.size() - 1)) throw new IndexOutOfBoundsException();
        if (badPlace(x, y) || bad(strength, 1, 99)) throw new IllegalArgumentException();
        if (!sees(station, x, y)) return 1;
        if (strength <= level(x, y)) return 2;
        for (Blip w : waiting) {
            if ((w.seen & 1 << station) == 0 && (x - w.x) * (x - w.x) + (y - w.y) * (y - w.y) <= blur * blur) {
                w.x = (x + w.x + 100000) / 2 - 50000;
                w.y = (y + w.y + 100000) / 2 - 50000;
                w.strength = Math.max(w.strength, strength);
                w.seen += 1 << station;
                return 0;
            }
        }
        if (waiting.size() == 10) return 3;
        Blip w = new Blip();
        w.x = x;
        w.y = y;
        w.strength = strength;
        w.seen = 1 << station;
        waiting.add(w);
        return 0;
    }

    private List<Blip> told() {
        return waiting.isEmpty() ? swept : waiting;
    }

    int blip(int blip, int what) {
        if (bad(blip, 0, told().size() - 1) || bad(what, 0, 4)) throw new IndexOutOfBoundsException();
        Blip w = told().get(blip);
        return new int[] {w.x, w.y, w.strength, w.seen, w.track}[what];
    }

    /** The nearest whole number of n / d, the greater one of two. */
    static int round(long n, long d) {
        long whole = n / d;
        long best = whole - 2;
        for (long c = whole - 2; c <= whole + 2; c++) {
            if (Math.abs(c * d - n) <= Math.abs(best * d - n)) best = c;
        }
        return (int) best;
    }

    int sweep(int dt) {
        if (bad(dt, 1, 60)) throw new IllegalArgumentException();
        if (sweeps == 500) throw new IllegalStateException();
        swept = waiting;
        waiting = new ArrayList<>();
        ticks += dt;
        for (Ship s : ships) {
            s.x += round((long) s.vx * dt, 16);
            s.y += round((long) s.vy * dt, 16);
            s.fresh = false;
        }
        int joined = join();
        stepTracks(dt);
        for (Blip w : swept) {
            int l = level(w.x, w.y) + (w.joined ? -1 : 3);
            levels.put(field(w.x, w.y), l > 60 ? 60 : l < 0 ? 0 : l);
        }
        stepBegin();
        for (Ship s : ships) s.path.add(0, new int[] {s.x, s.y});
        stepKnown();
        stepCross();
        stepAreas();
        for (Blip w : swept) w.track = w.ship == null ? -1 : w.ship.name;
        sweeps++;
        return joined;
    }

    private void stepTracks(int dt) {
        for (Ship s : new ArrayList<>(ships)) {
            if (s.blip == null) {
                s.misses++;
                if (s.state == 0 && s.misses == 2) {
                    ships.remove(s);
                } else if (s.state == 1) {
                    s.state = 2;
                    note(2, s.name, -1);
                } else if (s.state == 2 && s.misses == 5) {
                    note(3, s.name, -1);
                    s.lostSweep = sweeps;
                    s.lostTick = ticks;
                    ships.remove(s);
                    lost.add(s);
                }
                continue;
            }
            int rx = 16 * s.blip.x - s.x;
            int ry = 16 * s.blip.y - s.y;
            s.x += round((long) rx * a, 16);
            s.y += round((long) ry * a, 16);
            s.vx += round((long) rx * b, dt);
            s.vy += round((long) ry * b, dt);
            s.vx = s.vx > 16384 ? 16384 : s.vx < -16384 ? -16384 : s.vx;
            s.vy = s.vy > 16384 ? 16384 : s.vy < -16384 ? -16384 : s.vy;
            s.misses = 0;
            s.joined++;
            if (s.state == 0 && s.joined == 3) {
                s.state = 1;
                s.fresh = true;
                note(1, s.name, -1);
            } else if (s.state == 2) {
                s.state = 1;
                note(4, s.name, -1);
            }
        }
    }

    private void stepBegin() {
        for (Blip w : swept) {
            if (w.joined || ships.size() >= 10) continue;
            Ship s = new Ship();
            s.name = names++;
            s.x = 16 * w.x;
            s.y = 16 * w.y;
            s.joined = 1;
            w.ship = s;
            ships.add(s);
            note(0, s.name, -1);
        }
    }

    private void stepKnown() {
        for (Ship s : new ArrayList<>(ships)) {
            if (!s.fresh) continue;
            Ship best = null;
            long least = 0;
            for (Ship l : lost) {
                if (sweeps - l.lostSweep > 12) continue;
                long dx = l.x + round((long) l.vx * (ticks - l.lostTick), 16) - s.x;
                long dy = l.y + round((long) l.vy * (ticks - l.lostTick), 16) - s.y;
                long sq = dx * dx + dy * dy;
                if (sq > (64L * gate) * (64L * gate)) continue;
                if (best == null || sq < least || sq == least && l.name < best.name) {
                    best = l;
                    least = sq;
                }
            }
            if (best != null) {
                note(5, best.name, s.name);
                s.name = best.name;
                lost.remove(best);
            }
        }
        ships.sort((p, q) -> p.name - q.name);
    }

    private void stepCross() {
        for (Ship p : ships) {
            for (Ship q : ships) {
                if (p.name < q.name && p.state == 1 && q.state == 1 && meet(p.path, q.path)) note(6, p.name, q.name);
            }
        }
    }

    private static boolean meet(List<int[]> p, List<int[]> q) {
        long ax = p.get(1)[0], ay = p.get(1)[1], rx = p.get(0)[0] - ax, ry = p.get(0)[1] - ay;
        long cx = q.get(1)[0], cy = q.get(1)[1], qx = q.get(0)[0] - cx, qy = q.get(0)[1] - cy;
        long det = rx * qy - ry * qx;
        long wx = cx - ax, wy = cy - ay;
        if (det != 0) {
            long t = wx * qy - wy * qx, s = wx * ry - wy * rx;
            if (det < 0) {
                det = -det;
                t = -t;
                s = -s;
            }
            return t >= 0 && t <= det && s >= 0 && s <= det;
        }
        // Parallel, or one of them a point: they meet just if an end of the one is on the other.
        return on(ax, ay, cx, cy, qx, qy) || on(ax + rx, ay + ry, cx, cy, qx, qy)
                || on(cx, cy, ax, ay, rx, ry) || on(cx + qx, cy + qy, ax, ay, rx, ry);
    }

    private static boolean on(long x, long y, long ax, long ay, long dx, long dy) {
        long px = x - ax, py = y - ay;
        if (dx == 0 && dy == 0) return px == 0 && py == 0;
        long along = px * dx + py * dy;
        return px * dy - py * dx == 0 && along >= 0 && along <= dx * dx + dy * dy;
    }

    private void stepAreas() {
        for (int k = 0; k < areas.size(); k++) {
            Box box = areas.get(k);
            for (Ship s : ships) {
                boolean was = s.firmIn.contains(box);
                boolean is = s.state == 1 && in(box, s);
                if (is && !was) note(7, s.name, k);
                if (was && s.state == 1 && !is) note(8, s.name, k);
            }
        }
        for (Ship s : ships) {
            s.firmIn.clear();
            for (Box box : areas) {
                if (s.state == 1 && in(box, s)) s.firmIn.add(box);
            }
        }
    }

    private static boolean in(Box box, Ship s) {
        return s.x >= 16 * box.x && s.x <= 16 * box.u && s.y >= 16 * box.y && s.y <= 16 * box.v;
    }

    private void note(int kind, int name, int other) {
        events.add(new int[] {sweeps, kind, name, other});
    }

    private List<int[]> keptEvents() {
        return events.subList(Math.max(0, events.size() - 120), events.size());
    }

    /** Joins one blip after the other: it tries each pair and asks whether the rest can still reach the best. */
    private int join() {
        int n = ships.size();
        int m = swept.size();
        long[][] cost = new long[n][m];
        for (int i = 0; i < n; i++) {
            for (int j = 0; j < m; j++) cost[i][j] = cost(ships.get(i), swept.get(j));
        }
        boolean[] usedShip = new boolean[n];
        boolean[] usedBlip = new boolean[m];
        long[] best = solve(cost, usedShip, usedBlip);
        int count = (int) best[0];
        for (int i = 0; i < n; i++) {
            Ship s = ships.get(i);
            s.blip = null;
            usedShip[i] = true;
            for (int j = 0; j < m && s.blip == null; j++) {
                if (usedBlip[j] || cost[i][j] < 0) continue;
                usedBlip[j] = true;
                long[] rest = solve(cost, usedShip, usedBlip);
                if (rest[0] + 1 == best[0] && rest[1] + cost[i][j] == best[1]) {
                    s.blip = swept.get(j);
                    s.blip.ship = s;
                    s.blip.joined = true;
                    best = rest;
                } else {
                    usedBlip[j] = false;
                }
            }
        }
        return count;
    }

    private long cost(Ship s, Blip w) {
        long dx = 16L * w.x - s.x;
        long dy = 16L * w.y - s.y;
        long reach = 16L * (gate + 40L * s.misses);
        return dx * dx + dy * dy <= reach * reach ? dx * dx + dy * dy : -1;
    }

    /** The most joins and the least sum, by shortest augmenting paths (Bellman and Ford). */
    private static long[] solve(long[][] cost, boolean[] usedShip, boolean[] usedBlip) {
        int n = usedShip.length;
        int m = usedBlip.length;
        int[] shipOf = new int[m];
        java.util.Arrays.fill(shipOf, -1);
        boolean[] matched = new boolean[n];
        long count = 0;
        long sum = 0;
        while (true) {
            long inf = Long.MAX_VALUE / 4;
            long[] toShip = new long[n];
            long[] toBlip = new long[m];
            int[] from = new int[m];
            java.util.Arrays.fill(toBlip, inf);
            for (int i = 0; i < n; i++) toShip[i] = usedShip[i] || matched[i] ? inf : 0;
            for (boolean changed = true; changed; ) {
                changed = false;
                for (int i = 0; i < n; i++) {
                    for (int j = 0; j < m; j++) {
                        if (toShip[i] >= inf || usedBlip[j] || cost[i][j] < 0 || shipOf[j] == i) continue;
                        if (toShip[i] + cost[i][j] < toBlip[j]) {
                            toBlip[j] = toShip[i] + cost[i][j];
                            from[j] = i;
                            changed = true;
                            int back = shipOf[j];
                            if (back >= 0 && toBlip[j] - cost[back][j] < toShip[back]) toShip[back] = toBlip[j] - cost[back][j];
                        }
                    }
                }
            }
            int end = -1;
            for (int j = 0; j < m; j++) {
                if (shipOf[j] < 0 && toBlip[j] < inf && (end < 0 || toBlip[j] < toBlip[end])) end = j;
            }
            if (end < 0) return new long[] {count, sum};
            count++;
            sum += toBlip[end];
            for (int j = end; j >= 0; ) {
                int i = from[j];
                int next = -1;
                for (int k = 0; k < m; k++) {
                    if (k != j && shipOf[k] == i) next = k;
                }
                shipOf[j] = i;
                matched[i] = true;
                if (next >= 0) shipOf[next] = -1;
                j = next;
            }
        }
    }

    int count(int what) {
        if (bad(what, 0, 10)) throw new IndexOutOfBoundsException();
        int firm = 0;
        for (Ship s : ships) firm += s.state == 1 ? 1 : 0;
        int canBeKnown = 0;
        for (Ship l : lost) canBeKnown += sweeps - l.lostSweep <= 12 ? 1 : 0;
        return new int[] {stations.size(), land.size(), areas.size(), waiting.size(), ships.size(), firm, canBeKnown,
            sweeps, ticks, events.size(), names}[what];
    }

    int name(int index) {
        if (bad(index, 0, ships.size() - 1)) throw new IndexOutOfBoundsException();
        return ships.get(index).name;
    }

    private Ship ship(int name) {
        for (Ship s : ships) {
            if (s.name == name) return s;
        }
        throw new IndexOutOfBoundsException();
    }

    int track(int name, int what) {
        Ship s = ship(name);
        if (bad(what, 0, 7)) throw new IndexOutOfBoundsException();
        return new int[] {s.x, s.y, s.vx, s.vy, s.state, s.joined, s.misses, s.path.size()}[what];
    }

    int path(int name, int back, boolean isX) {
        Ship s = ship(name);
        if (bad(back, 0, 11) || back >= s.path.size()) throw new IndexOutOfBoundsException();
        return s.path.get(back)[isX ? 0 : 1];
    }

    double speed(int name) {
        Ship s = ship(name);
        return s.vx / 256.0 * (s.vx / 256.0) + s.vy / 256.0 * (s.vy / 256.0);
    }

    long nearest(int a, int b) {
        Ship p = ship(a);
        Ship q = ship(b);
        long least = -1;
        for (int t = 300; t >= 0; t--) {
            long dx = p.x + round((long) p.vx * t, 16) - (q.x + round((long) q.vx * t, 16));
            long dy = p.y + round((long) p.vy * t, 16) - (q.y + round((long) q.vy * t, 16));
            long sq = dx * dx + dy * dy;
            if (least < 0 || sq < least) least = sq;
        }
        return least;
    }

    int dangers(int limit) {
        if (bad(limit, 0, 5000)) throw new IllegalArgumentException();
        int pairs = 0;
        for (Ship p : ships) {
            for (Ship q : ships) {
                if (p.name < q.name && p.state == 1 && q.state == 1 && nearest(p.name, q.name) <= 256L * limit * limit) pairs++;
            }
        }
        return pairs;
    }

    int inside(int area) {
        if (bad(area, 0, areas.size() - 1)) throw new IndexOutOfBoundsException();
        int set = 0;
        for (Ship s : ships) {
            if (s.name <= 30 && s.state == 1 && in(areas.get(area), s)) set += 1 << s.name;
        }
        return set;
    }

    int event(int index, int what) {
        if (bad(index, 0, keptEvents().size() - 1) || bad(what, 0, 3)) throw new IndexOutOfBoundsException();
        return keptEvents().get(index)[what];
    }

    private static void copy(SlowRadar from, SlowRadar to) {
        to.stations = new ArrayList<>(from.stations);
        to.land = new ArrayList<>(from.land);
        to.areas = new ArrayList<>(from.areas);
        to.levels = new java.util.TreeMap<>(from.levels);
        to.waiting = new ArrayList<>();
        for (Blip w : from.waiting) to.waiting.add(w.copy());
        to.swept = new ArrayList<>();
        for (Blip w : from.swept) to.swept.add(w.copy());
        to.ships = new ArrayList<>();
        for (Ship s : from.ships) to.ships.add(s.copy());
        to.lost = new ArrayList<>();
        for (Ship s : from.lost) to.lost.add(s.copy());
        to.events = new ArrayList<>(from.events);
        to.blur = from.blur;
        to.gate = from.gate;
        to.a = from.a;
        to.b = from.b;
        to.sweeps = from.sweeps;
        to.ticks = from.ticks;
        to.names = from.names;
    }

    int mark() {
        kept = new SlowRadar();
        copy(this, kept);
        return sweeps;
    }

    int restore() {
        if (kept == null) throw new IllegalStateException();
        copy(kept, this);
        return sweeps;
    }

    long digest() {
        List<Long> row = new ArrayList<>();
        for (int k = 0; k <= 10; k++) row.add((long) count(k));
        for (Ship s : ships) {
            row.add((long) s.name);
            for (int k = 0; k <= 7; k++) row.add((long) track(s.name, k));
        }
        for (int i = 0; i < told().size(); i++) {
            for (int k = 0; k <= 4; k++) row.add((long) blip(i, k));
        }
        for (int[] e : keptEvents()) {
            for (int k = 0; k <= 3; k++) row.add((long) e[k]);
        }
        for (int k = 0; k < areas.size(); k++) row.add((long) inside(k));
        long d = 431;
        for (long x : row) d = d * 31 + x;
        return d;
    }
}
