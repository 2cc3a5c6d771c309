/** Compares CoastRadar with SlowRadar, call by call, in runs of 512 calls in all that follow fixed, scattered numbers. */
final class ModelTest {
    private static final int RUNS = 600;
    private static final int CALLS = 512;

    private long seed;
    private CoastRadar fast;
    private SlowRadar slow;
    private int run;
    private int calls;
    private final int[] kinds = new int[9];

    public static void main(String[] args) {
        ModelTest test = new ModelTest();
        for (int run = 0; run < RUNS; run++) test.oneRun(run);
        for (int kind = 0; kind < test.kinds.length; kind++) {
            Checks.isTrue("runs have enough events of kind " + kind + ": " + test.kinds[kind], test.kinds[kind] >= 50);
        }
        System.out.println("events of kinds 0 to 8: " + java.util.Arrays.toString(test.kinds));
        Checks.end("ModelTest");
    }

    private int random(int from, int to) {
        seed = seed * 6364136223846793005L + 1442695040888963407L;
        return (int) (from + Math.floorMod(seed >>> 33, (long) to - from + 1));
    }

    /** The last call of a run is left for a digest. */
    private void same(String what, Checks.Call quick, Checks.Call model) {
        if (calls >= CALLS - 1) return;
        calls++;
        String thrownByModel = "nothing";
        long due = 0;
        try {
            due = model.answer();
        } catch (RuntimeException e) {
            thrownByModel = e.getClass().getSimpleName();
        }
        String thrown = "nothing";
        long got = 0;
        try {
            got = quick.answer();
        } catch (RuntimeException e) {
            thrown = e.getClass().getSimpleName();
        }
        String where = "run " + run + ", call " + calls + ": " + what;
        if (!thrown.equals(thrownByModel)) {
            Checks.isTrue(where + " threw " + thrown + ", due is " + thrownByModel, false);
        }
        Checks.equal(where, got, due);
    }

    private void sameDigest() {
        if (calls >= CALLS) return;
        calls++;
        Checks.equal("run " + run + ", call " + calls + ": digest()", fast.digest(), slow.digest());
    }

    private void oneRun(int number) {
        run = number;
        seed = 77 + 1000003L * number;
        calls = 0;
        fast = new CoastRadar();
        slow = new SlowRadar();
        int mode = number % 5;
        if (mode == 4) {
            while (calls < CALLS - 1) wildCall();
        } else {
            coast(mode);
            if (mode == 1) grid(); else voyage(mode);
        }
        sameDigest();
        for (int i = 0; i < Math.min(120, slow.count(9)); i++) kinds[slow.event(i, 1)]++;
    }

    private void coast(int mode) {
        int stations = random(1, 4);
        for (int i = 0; i < stations; i++) addStation(random(-900, 900), random(-900, 900), random(9000, 20000));
        if (mode == 2) {
            for (int i = random(0, 10); i > 0; i--) {
                int x = random(-3000, 2500);
                int y = random(-3000, 2500);
                addPlace(false, x, y, x + random(1, 500), y + random(1, 500));
            }
        }
        for (int i = random(1, 6); i > 0; i--) addArea();
        if (random(0, 2) > 0) tune(random(0, 1) * random(0, 500), random(20, 900), random(0, 16), random(0, 16));
    }

    private void addArea() {
        int x = random(-1500, 1400);
        int y = random(-1500, 1400);
        addPlace(true, x, y, x + random(1, 2000), y + random(1, 2000));
    }

    /** Blips on a coarse grid, so that many sums are the same. */
    private void grid() {
        int step = random(1, 3) * 10;
        int size = random(1, 4);
        tune(0, random(1, 6) * step / 2 + 1, random(0, 1) * 16, random(0, 1) * random(0, 16));
        while (calls < CALLS - 1) {
            for (int i = random(1, 10); i > 0; i--) {
                report(0, random(-size, size) * step + 500, random(-size, size) * step + 500, 99);
            }
            sweep(random(1, 3));
            if (random(0, 3) == 0) query();
        }
    }

    /** Ships that go their ways, are not seen for some sweeps, and come back. */
    private void voyage(int mode) {
        int ships = random(1, mode == 3 ? 12 : 5);
        int[] x = new int[ships];
        int[] y = new int[ships];
        int[] vx = new int[ships];
        int[] vy = new int[ships];
        int[] hidden = new int[ships];
        for (int i = 0; i < ships; i++) {
            x[i] = random(-1500, 1500);
            y[i] = random(-1500, 1500);
            vx[i] = -x[i] / random(20, 100);
            vy[i] = -y[i] / random(20, 100);
        }
        int stations = slow.count(0);
        while (calls < CALLS - 1) {
            int dt = random(1, random(0, 3) == 0 ? 60 : 12);
            for (int i = 0; i < ships; i++) {
                x[i] = Math.max(-9999, Math.min(9999, x[i] + vx[i] * dt));
                y[i] = Math.max(-9999, Math.min(9999, y[i] + vy[i] * dt));
                if (random(0, 15) == 0 || Math.abs(x[i]) + Math.abs(y[i]) > 5000) {
                    vx[i] = -x[i] / random(30, 100);
                    vy[i] = -y[i] / random(30, 100);
                }
                if (random(0, 25) == 0) hidden[i] = random(3, 16);
                if (hidden[i]-- > 0 || random(0, 9) == 0) continue;
                report(random(0, stations - 1), x[i], y[i], random(40, 99));
                if (random(0, 5) == 0) report(random(0, stations - 1), x[i] + random(-30, 30) / 9, y[i] + random(-3, 3), random(1, 99));
            }
            if (random(0, 9) == 0) report(random(0, stations - 1), random(-2000, 2000), random(-2000, 2000), random(1, 99));
            sweep(dt);
            if (random(0, 2) == 0) query();
            if (random(0, 40) == 0) wildCall();
            if (random(0, 40) == 0) addArea();
            if (random(0, 12) == 0) mark();
            if (random(0, 12) == 0) restore();
        }
    }

    private void query() {
        int name = slow.count(4) == 0 ? random(-1, 9) : slow.name(random(0, slow.count(4) - 1));
        int other = slow.count(4) == 0 ? random(-1, 9) : slow.name(random(0, slow.count(4) - 1));
        int what = random(0, 7);
        switch (random(0, 7)) {
            case 0: path(name, random(0, 12), random(0, 1) == 0); break;
            case 1: speed(name); break;
            case 2: nearest(name, other); break;
            case 3: dangers(random(0, 5000)); break;
            case 4: dangers(random(0, 100)); break;
            case 5: sees(random(0, 3), random(-2000, 2000), random(-2000, 2000)); break;
            case 6: track(name, what); break;
            default: level(random(-2000, 2000), random(-2000, 2000)); break;
        }
    }

    private int wild() {
        int[] odd = {Integer.MIN_VALUE, Integer.MAX_VALUE, -10000, 10000, -9999, 9999, -1, 0, 1, 2, 3, 10, 11, 16, 17, 60, 61, 99, 100,
            120, 500, 501, 2000, 2001, 5000, 5001, 20000, 20001, -1000, 999, 1000};
        return random(0, 2) == 0 ? odd[random(0, odd.length - 1)] : random(0, 2) == 0 ? random(-120, 120) : random(0, 9);
    }

    private void wildCall() {
        switch (random(0, 24)) {
            case 0: addStation(wild(), wild(), wild()); break;
            case 1: addPlace(random(0, 1) == 0, wild(), wild(), wild(), wild()); break;
            case 2: sees(wild(), wild(), wild()); break;
            case 3: level(wild(), wild()); break;
            case 4: tune(wild(), wild(), wild(), wild()); break;
            case 5: case 6: case 7: case 8: report(random(0, 9) == 0 ? wild() : 0, wild(), wild(), wild()); break;
            case 9: blip(wild(), wild()); break;
            case 10: case 11: case 12: sweep(random(0, 5) == 0 ? wild() : random(1, 60)); break;
            case 13: count(wild()); break;
            case 14: name(wild()); break;
            case 15: track(wild(), wild()); break;
            case 16: path(wild(), wild(), random(0, 1) == 0); break;
            case 17: speed(wild()); break;
            case 18: nearest(wild(), wild()); break;
            case 19: dangers(wild()); break;
            case 20: inside(wild()); break;
            case 21: event(wild(), wild()); break;
            case 22: mark(); break;
            case 23: restore(); break;
            default: addStation(random(-99, 99), random(-99, 99), random(1, 20000)); break;
        }
    }

    private void addStation(int x, int y, int range) {
        same("addStation(" + x + ", " + y + ", " + range + ")", () -> fast.addStation(x, y, range), () -> slow.addStation(x, y, range));
    }

    private void addPlace(boolean isArea, int x, int y, int u, int v) {
        same("addPlace(" + isArea + ", " + x + ", " + y + ", " + u + ", " + v + ")",
            () -> fast.addPlace(isArea, x, y, u, v), () -> slow.addPlace(isArea, x, y, u, v));
    }

    private void sees(int station, int x, int y) {
        same("sees(" + station + ", " + x + ", " + y + ")",
            () -> fast.sees(station, x, y) ? 1 : 0, () -> slow.sees(station, x, y) ? 1 : 0);
    }

    private void level(int x, int y) {
        same("level(" + x + ", " + y + ")", () -> fast.level(x, y), () -> slow.level(x, y));
    }

    private void tune(int blur, int gate, int a, int b) {
        same("tune(" + blur + ", " + gate + ", " + a + ", " + b + ")", () -> fast.tune(blur, gate, a, b), () -> slow.tune(blur, gate, a, b));
    }

    private void report(int station, int x, int y, int strength) {
        same("report(" + station + ", " + x + ", " + y + ", " + strength + ")",
            () -> fast.report(station, x, y, strength), () -> slow.report(station, x, y, strength));
    }

    private void blip(int blip, int what) {
        same("blip(" + blip + ", " + what + ")", () -> fast.blip(blip, what), () -> slow.blip(blip, what));
    }

    private void sweep(int dt) {
        same("sweep(" + dt + ")", () -> fast.sweep(dt), () -> slow.sweep(dt));
        if (calls < CALLS - 1) sameDigest();
    }

    private void count(int what) {
        same("count(" + what + ")", () -> fast.count(what), () -> slow.count(what));
    }

    private void name(int index) {
        same("name(" + index + ")", () -> fast.name(index), () -> slow.name(index));
    }

    private void track(int name, int what) {
        same("track(" + name + ", " + what + ")", () -> fast.track(name, what), () -> slow.track(name, what));
    }

    private void path(int name, int back, boolean isX) {
        same("path(" + name + ", " + back + ", " + isX + ")", () -> fast.path(name, back, isX), () -> slow.path(name, back, isX));
    }

    private void speed(int name) {
        same("speed(" + name + ")", () -> Double.doubleToLongBits(fast.speed(name)), () -> Double.doubleToLongBits(slow.speed(name)));
    }

    private void nearest(int a, int b) {
        same("nearest(" + a + ", " + b + ")", () -> fast.nearest(a, b), () -> slow.nearest(a, b));
    }

    private void dangers(int limit) {
        same("dangers(" + limit + ")", () -> fast.dangers(limit), () -> slow.dangers(limit));
    }

    private void inside(int area) {
        same("inside(" + area + ")", () -> fast.inside(area), () -> slow.inside(area));
    }

    private void event(int index, int what) {
        same("event(" + index + ", " + what + ")", () -> fast.event(index, what), () -> slow.event(index, what));
    }

    private void mark() {
        same("mark()", () -> fast.mark(), () -> slow.mark());
    }

    private void restore() {
        same("restore()", () -> fast.restore(), () -> slow.restore());
        if (calls < CALLS - 1) sameDigest();
    }
}
