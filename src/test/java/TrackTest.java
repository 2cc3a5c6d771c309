/** Promises 10 to 18: what is counted, and what can be told of tracks, areas and events. */
final class TrackTest {
    public static void main(String[] args) {
        count();
        name();
        track();
        path();
        speed();
        nearest();
        dangers();
        inside();
        insideNames();
        event();
        Checks.end("TrackTest");
    }

    private static void counts(CoastRadar r, int... due) {
        for (int what = 0; what <= 10; what++) {
            Checks.equal("count(" + what + ") behind " + r.count(7) + " sweeps", r.count(what), due[what]);
        }
    }

    private static void count() {
        CoastRadar r = new CoastRadar();
        for (int what : new int[] {-1, 11, Integer.MIN_VALUE, Integer.MAX_VALUE}) {
            Checks.refuses(r, "count(" + what + ")", Checks.BOUNDS, () -> r.count(what));
        }
        r.addStation(0, 0, 5000);
        r.addPlace(false, 1000, 1000, 1100, 1100);
        r.addPlace(false, 1000, 1000, 1100, 1100);
        for (int i = 0; i < 3; i++) {
            r.addPlace(true, 0, 0, 1100, 1100);
        }
        r.report(0, 5, 5, 9);
        counts(r, 1, 2, 3, 1, 0, 0, 0, 0, 0, 0, 0);
        r.sweep(7);
        counts(r, 1, 2, 3, 0, 1, 0, 0, 1, 7, 1, 1);
        r.report(0, 5, 5, 9);
        r.sweep(7);
        r.report(0, 5, 5, 9);
        r.report(0, 2000, 5, 9);
        counts(r, 1, 2, 3, 2, 1, 0, 0, 2, 14, 1, 1);
        r.sweep(60);
        counts(r, 1, 2, 3, 0, 2, 1, 0, 3, 74, 6, 2);
        for (int i = 0; i < 5; i++) {
            r.sweep(1);
        }
        counts(r, 1, 2, 3, 0, 0, 0, 1, 8, 79, 8, 2);
    }

    private static void name() {
        CoastRadar r = Checks.radar(10, 0);
        Checks.refuses(r, "name(0) without tracks", Checks.BOUNDS, () -> r.name(0));
        Checks.sweep(r, 1, 0, 0, 100, 0, 200, 0);
        Checks.sweep(r, 1, 100, 0);
        Checks.sweep(r, 1, 100, 0, 300, 0);
        Checks.equal("name(0)", r.name(0), 1);
        Checks.equal("name(1)", r.name(1), 3);
        Checks.refuses(r, "name(-1)", Checks.BOUNDS, () -> r.name(-1));
        Checks.refuses(r, "name(2)", Checks.BOUNDS, () -> r.name(2));
        Checks.refuses(r, "name(10)", Checks.BOUNDS, () -> r.name(10));
        Checks.refuses(r, "name(MAX)", Checks.BOUNDS, () -> r.name(Integer.MAX_VALUE));
    }

    private static void tells(CoastRadar r, int name, int... due) {
        for (int what = 0; what <= 7; what++) {
            Checks.equal("track(" + name + ", " + what + ") behind " + r.count(7) + " sweeps", r.track(name, what), due[what]);
        }
    }

    private static void track() {
        CoastRadar r = new CoastRadar();
        r.addStation(0, 0, 20000);
        Checks.refuses(r, "track(0, 0) without tracks", Checks.BOUNDS, () -> r.track(0, 0));
        Checks.sweep(r, 9, 10, -20);
        tells(r, 0, 160, -320, 0, 0, 0, 1, 0, 1);
        Checks.sweep(r, 10, 30, -60);
        tells(r, 0, 320, -640, 128, -256, 0, 2, 0, 2);
        r.sweep(10);
        tells(r, 0, 400, -800, 128, -256, 0, 2, 1, 3);
        Checks.sweep(r, 10, 30, -60);
        tells(r, 0, 480, -960, 128, -256, 1, 3, 0, 4);
        r.sweep(1);
        tells(r, 0, 488, -976, 128, -256, 2, 3, 1, 5);
        for (int what : new int[] {-1, 8, Integer.MIN_VALUE, Integer.MAX_VALUE}) {
            Checks.refuses(r, "track(0, " + what + ")", Checks.BOUNDS, () -> r.track(0, what));
        }
        for (int name : new int[] {-1, 1, Integer.MIN_VALUE, Integer.MAX_VALUE}) {
            Checks.refuses(r, "track(" + name + ", 0)", Checks.BOUNDS, () -> r.track(name, 0));
        }
        for (int i = 0; i < 4; i++) {
            r.sweep(1);
        }
        Checks.refuses(r, "track(0, 0) behind its loss", Checks.BOUNDS, () -> r.track(0, 0));
    }

    private static void path() {
        CoastRadar r = Checks.radar(50, 0);
        Checks.refuses(r, "path(0, 0) without tracks", Checks.BOUNDS, () -> r.path(0, 0, true));
        for (int i = 0; i < 15; i++) {
            Checks.sweep(r, 1, 10 * i, -7 * i);
            for (int back = 0; back <= Math.min(i, 11); back++) {
                Checks.equal("x, " + back + " back from " + i, r.path(0, back, true), 160 * (i - back));
                Checks.equal("y, " + back + " back from " + i, r.path(0, back, false), -112 * (i - back));
            }
            int tooFar = Math.min(i + 1, 12);
            Checks.refuses(r, "path(0, " + tooFar + ") behind sweep " + i, Checks.BOUNDS, () -> r.path(0, tooFar, true));
        }
        Checks.refuses(r, "path(0, -1)", Checks.BOUNDS, () -> r.path(0, -1, true));
        Checks.refuses(r, "path(0, MAX)", Checks.BOUNDS, () -> r.path(0, Integer.MAX_VALUE, true));
        Checks.refuses(r, "path(1, 0)", Checks.BOUNDS, () -> r.path(1, 0, false));
        Checks.refuses(r, "path(-1, 0)", Checks.BOUNDS, () -> r.path(-1, 0, false));
        for (int i = 0; i < 5; i++) {
            r.sweep(1);
        }
        for (int i = 0; i < 3; i++) {
            Checks.sweep(r, 1, 150 + i, -98);
        }
        Checks.equal("it is known again", r.name(0), 0);
        Checks.equal("its own path", r.path(0, 2, true), 2400);
        Checks.refuses(r, "the path of the lost one", Checks.BOUNDS, () -> r.path(0, 3, true));
    }

    private static void speed() {
        CoastRadar r = Checks.radar(300, 1);
        Checks.refuses(r, "speed(0) without tracks", Checks.BOUNDS, () -> (long) r.speed(0));
        Checks.sweep(r, 1, 0, 0);
        Checks.isTrue("no speed", r.speed(0) == 0.0);
        Checks.sweep(r, 2, 1, -1);
        Checks.isTrue("8, -8", r.speed(0) == 128.0 / 65536.0);
        Checks.refuses(r, "speed(1)", Checks.BOUNDS, () -> (long) r.speed(1));
        Checks.refuses(r, "speed(-1)", Checks.BOUNDS, () -> (long) r.speed(-1));
        CoastRadar s = Checks.radar(2000, 16);
        Checks.sweep(s, 1, 0, 0);
        Checks.sweep(s, 1, 2000, 0);
        Checks.isTrue("the greatest speed, 64 places", s.speed(0) == 4096.0);
        CoastRadar t = Checks.radar(2000, 16);
        Checks.sweep(t, 1, 0, 0);
        Checks.sweep(t, 1, -1000, 1000);
        Checks.isTrue("the greatest speed of both", t.speed(0) == 8192.0);
    }

    /** Two firm tracks, 0 going 1 place a tick to the greater x, 1 to the lesser one. */
    private static CoastRadar towards(int x, int y) {
        CoastRadar r = Checks.radar(30, 16);
        for (int i = 0; i < 3; i++) {
            Checks.sweep(r, 1, i, 0, x - i, y);
        }
        Checks.equal("speed of 0", r.track(0, 2), 256);
        Checks.equal("speed of 1", r.track(1, 2), -256);
        return r;
    }

    private static void nearest() {
        CoastRadar r = towards(100, 50);
        Checks.equal("side by side in 48 ticks", r.nearest(0, 1), 640000);
        Checks.equal("the other way round", r.nearest(1, 0), 640000);
        Checks.equal("to itself", r.nearest(1, 1), 0);
        Checks.equal("an odd way: one place is left", towards(101, 50).nearest(0, 1), 640000 + 256);
        Checks.equal("300 ticks are looked at", towards(704, 0).nearest(0, 1), 1600 * 1600);
        Checks.equal("no more of them: 301 were needed", towards(606, 0).nearest(0, 1), 32 * 32);
        Checks.equal("300 were needed", towards(604, 0).nearest(0, 1), 0);
        Checks.equal("going apart, from now", towards(-96, 10).nearest(0, 1), 1600 * 1600 + 160 * 160);
        CoastRadar half = Checks.radar(30, 1);
        Checks.sweep(half, 1, 0, 0, 100, 0);
        Checks.sweep(half, 2, 1, 0, 99, 0);
        Checks.equal("new ones too, rounded: 98 * 16 - 150 - 150", half.nearest(0, 1), 1268 * 1268);
        Checks.refuses(r, "nearest(0, 2)", Checks.BOUNDS, () -> r.nearest(0, 2));
        Checks.refuses(r, "nearest(2, 0)", Checks.BOUNDS, () -> r.nearest(2, 0));
        Checks.refuses(r, "nearest(-1, -1)", Checks.BOUNDS, () -> r.nearest(-1, -1));
        CoastRadar far = Checks.radar(30, 0);
        far.addStation(-9999, 0, 9999);
        far.addStation(9999, 0, 9999);
        far.report(1, -9999, 0, 9);
        far.report(2, 9999, 0, 9);
        far.sweep(1);
        Checks.equal("far away: more than an int holds", far.nearest(0, 1), 319968L * 319968L);
    }

    private static void dangers() {
        CoastRadar r = towards(100, 50);
        Checks.equal("as near as the limit", r.dangers(50), 1);
        Checks.equal("not as near", r.dangers(49), 0);
        Checks.equal("the greatest limit", r.dangers(5000), 1);
        Checks.equal("the least limit", r.dangers(0), 0);
        Checks.equal("the limit 0, at the same place", towards(100, 0).dangers(0), 1);
        for (int limit : new int[] {-1, 5001, Integer.MIN_VALUE, Integer.MAX_VALUE}) {
            Checks.refuses(r, "dangers(" + limit + ")", Checks.ARGUMENT, () -> r.dangers(limit));
        }
        Checks.sweep(r, 1, 3, 0);
        Checks.equal("one that coasts is no danger", r.dangers(5000), 0);
        CoastRadar three = Checks.radar(30, 0);
        Checks.sweep(three, 1, 0, 0, 100, 0, 300, 0);
        Checks.sweep(three, 1, 0, 0, 100, 0, 300, 0);
        Checks.equal("new ones are no danger", three.dangers(5000), 0);
        Checks.sweep(three, 1, 0, 0, 100, 0, 300, 0);
        Checks.equal("pairs up to 99", three.dangers(99), 0);
        Checks.equal("pairs up to 100", three.dangers(100), 1);
        Checks.equal("pairs up to 200", three.dangers(200), 2);
        Checks.equal("pairs up to 300", three.dangers(300), 3);
    }

    private static void inside() {
        CoastRadar r = Checks.radar(30, 0);
        Checks.refuses(r, "inside(0) without areas", Checks.BOUNDS, () -> r.inside(0));
        r.addPlace(false, -9, -9, -5, -5);
        Checks.refuses(r, "inside(0) with land alone", Checks.BOUNDS, () -> r.inside(0));
        r.addPlace(true, 100, 100, 200, 200);
        r.addPlace(true, 0, 0, 150, 150);
        for (int i = 0; i < 3; i++) {
            Checks.sweep(r, 1, 100, 200, 99, 99, 150, 150, 200, 100, 400, 400);
        }
        Checks.equal("sides and corners are in it", r.inside(0), 1 + 4 + 8);
        Checks.equal("the other area", r.inside(1), 2 + 4);
        Checks.refuses(r, "inside(2)", Checks.BOUNDS, () -> r.inside(2));
        Checks.refuses(r, "inside(-1)", Checks.BOUNDS, () -> r.inside(-1));
        Checks.sweep(r, 1, 99, 200, 99, 99, 150, 201, 200, 100, 400, 400, 120, 120);
        Checks.equal("neither who has gone, nor who is new", r.inside(0), 8);
    }

    /** Names of 31 and more are in no set; 30 is. */
    private static void insideNames() {
        CoastRadar r = Checks.radar(10, 0);
        r.addPlace(true, -9999, -9999, 9999, 9999);
        for (int round = 0; round < 3; round++) {
            for (int i = 0; i < 10; i++) {
                r.report(0, 100 * i, 1000 * round, 99);
            }
            r.sweep(1);
            r.sweep(1);
        }
        for (int i = 0; i < 3; i++) {
            Checks.sweep(r, 1, 0, 5000, 100, 5000, 200, 5000);
        }
        Checks.text("names", Checks.names(r), "30 31 32");
        Checks.equal("the name 30 alone", r.inside(0), 1 << 30);
    }

    private static void event() {
        CoastRadar r = Checks.radar(10, 0);
        Checks.refuses(r, "event(0, 0) without events", Checks.BOUNDS, () -> r.event(0, 0));
        Checks.sweep(r, 1, 0, 0);
        Checks.text("one event", Checks.events(r), "0:0:0:-1");
        Checks.refuses(r, "event(1, 0)", Checks.BOUNDS, () -> r.event(1, 0));
        Checks.refuses(r, "event(-1, 0)", Checks.BOUNDS, () -> r.event(-1, 0));
        Checks.refuses(r, "event(0, -1)", Checks.BOUNDS, () -> r.event(0, -1));
        Checks.refuses(r, "event(0, 4)", Checks.BOUNDS, () -> r.event(0, 4));
        Checks.refuses(r, "event(MAX, 0)", Checks.BOUNDS, () -> r.event(Integer.MAX_VALUE, 0));
        CoastRadar s = Checks.radar(1, 0);
        for (int sweep = 0; sweep <= 26; sweep++) {
            for (int i = 0; i < 10 && sweep % 2 == 0; i++) {
                s.report(0, 50 * i, 100 * sweep, 99);
            }
            s.sweep(1);
            int all = 10 * (sweep / 2 + 1);
            int kept = Math.min(120, all);
            Checks.equal("events of all sweeps", s.count(9), all);
            Checks.equal("the oldest one's name", s.event(0, 2), all - kept);
            Checks.equal("the oldest one's sweep", s.event(0, 0), (all - kept) / 10 * 2);
            Checks.equal("the latest one's name", s.event(kept - 1, 2), all - 1);
            Checks.refuses(s, "event(" + kept + ", 0)", Checks.BOUNDS, () -> s.event(kept, 0));
        }
        Checks.sweep(s, 1, 9000, 9000);
        Checks.equal("no room for a track: no event", s.event(0, 2), 20);
        Checks.sweep(s, 1, -9000, 9000);
        Checks.equal("with room: the event of the name 20 is gone", s.event(0, 2), 21);
        Checks.equal("the latest one", s.event(119, 2), 140);
    }
}
