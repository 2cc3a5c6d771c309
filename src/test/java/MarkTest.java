/** Promises 19 and 20: mark and restore. The digest of promise 21 is tested in EdgeMarkTest. */
final class MarkTest {
    public static void main(String[] args) {
        restoreWrong();
        marks();
        keepsTheCoast();
        keepsTuning();
        keepsBlips();
        keepsTracks();
        keepsLostOnes();
        keepsWhereTheyWereLost();
        keepsEvents();
        staysKept();
        Checks.end("MarkTest");
    }

    private static void restoreWrong() {
        CoastRadar r = new CoastRadar();
        Checks.refuses(r, "restore() without a mark", Checks.STATE, () -> r.restore());
        r.addStation(0, 0, 5);
        r.sweep(1);
        Checks.refuses(r, "restore() still without a mark", Checks.STATE, () -> r.restore());
        Checks.equal("mark()", r.mark(), 1);
        Checks.equal("restore()", r.restore(), 1);
    }

    private static void marks() {
        CoastRadar r = Checks.radar(100, 0);
        Checks.equal("mark() ahead of all", r.mark(), 0);
        Checks.sweep(r, 1, 5, 5);
        Checks.equal("mark() behind one sweep", r.mark(), 1);
        r.sweep(1);
        r.sweep(1);
        Checks.equal("restore() to the latest mark", r.restore(), 1);
        Checks.equal("sweeps", r.count(7), 1);
        Checks.equal("tracks", r.count(4), 1);
    }

    private static void keepsTheCoast() {
        CoastRadar r = new CoastRadar();
        r.mark();
        r.addStation(0, 0, 1000);
        r.addPlace(false, 10, 10, 20, 20);
        r.addPlace(true, 10, 10, 20, 20);
        r.report(0, 5, 5, 9);
        r.sweep(1);
        Checks.equal("level", r.level(0, 0), 3);
        r.restore();
        Checks.equal("level then", r.level(0, 0), 0);
        for (int what = 0; what <= 10; what++) {
            Checks.equal("count(" + what + ")", r.count(what), 0);
        }
        Checks.equal("a station in its place", r.addStation(100, 100, 50), 0);
        Checks.equal("land in its place", r.addPlace(false, 110, 90, 120, 110), 0);
        Checks.isFalse("the old range is gone", r.sees(0, 15, 5));
        Checks.isFalse("the new land hides", r.sees(0, 130, 100));
        r.mark();
        r.addStation(0, 0, 2000);
        r.restore();
        Checks.refuses(r, "a station behind the mark", Checks.BOUNDS, () -> r.sees(1, 0, 0) ? 1 : 0);
        Checks.isTrue("the station ahead of it", r.sees(0, 100, 150));
    }

    private static void keepsTuning() {
        CoastRadar r = Checks.radar(77, 16);
        r.addStation(0, 0, 20000);
        r.mark();
        r.tune(500, 5, 0, 0);
        r.restore();
        r.report(0, 0, 0, 9);
        r.report(1, 1, 0, 9);
        Checks.equal("the blur 0", r.count(3), 2);
        r.sweep(1);
        Checks.sweep(r, 1, 10, 0);
        Checks.equal("a", r.track(1, 0), 160);
        Checks.equal("b", Math.max(r.track(0, 2), r.track(1, 2)), 9 * 256);
        Checks.equal("the gate", r.tune(0, 1, 1, 1), 77);
    }

    private static void keepsBlips() {
        CoastRadar r = Checks.radar(100, 0);
        r.addStation(0, 0, 20000);
        r.report(0, 5, 6, 7);
        r.mark();
        r.tune(100, 100, 16, 0);
        r.report(1, 15, 16, 17);
        r.report(1, 500, 16, 17);
        r.sweep(1);
        r.restore();
        Checks.equal("one blip waits", r.count(3), 1);
        int[] due = {5, 6, 7, 1, -1};
        for (int what = 0; what <= 4; what++) {
            Checks.equal("blip(0, " + what + ")", r.blip(0, what), due[what]);
        }
        r.sweep(1);
        r.mark();
        r.report(0, 50, 60, 70);
        r.restore();
        Checks.equal("none waits", r.count(3), 0);
        Checks.equal("a blip of the latest sweep", r.blip(0, 4), 0);
        Checks.equal("its x", r.blip(0, 0), 5);
    }

    private static void keepsTracks() {
        CoastRadar r = Checks.radar(100, 16);
        r.addPlace(true, 0, 0, 30, 30);
        for (int i = 0; i < 3; i++) {
            Checks.sweep(r, 1, 10 * i, 10 * i, 500, 500 + i);
        }
        long before = r.digest();
        r.mark();
        for (int i = 3; i < 9; i++) {
            Checks.sweep(r, 1, 9 * i, 11 * i, -700, 500);
        }
        String later = Checks.events(r);
        long laterDigest = r.digest();
        r.restore();
        Checks.equal("digest()", r.digest(), before);
        Checks.equal("path", r.path(0, 2, true), 0);
        Checks.equal("path", r.path(1, 1, false), 501 * 16);
        Checks.refuses(r, "the path from behind the mark", Checks.BOUNDS, () -> r.path(0, 3, true));
        Checks.refuses(r, "the track from behind the mark", Checks.BOUNDS, () -> r.track(2, 0));
        for (int i = 3; i < 9; i++) {
            Checks.sweep(r, 1, 9 * i, 11 * i, -700, 500);
        }
        Checks.text("the same sweeps make the same events", Checks.events(r), later);
        Checks.equal("and the same digest", r.digest(), laterDigest);
    }

    private static void keepsLostOnes() {
        CoastRadar r = Checks.radar(10, 0);
        for (int i = 0; i < 3; i++) {
            Checks.sweep(r, 1, 0, 0);
        }
        for (int i = 0; i < 5; i++) {
            r.sweep(1);
        }
        r.mark();
        for (int again = 0; again < 3; again++) {
            Checks.equal("one is lost", r.count(6), 1);
            for (int i = 0; i < 3; i++) {
                Checks.sweep(r, 1, 20, 0);
            }
            Checks.text("it is known again", Checks.names(r), "0");
            Checks.equal("none is lost", r.count(6), 0);
            r.restore();
        }
        for (int i = 0; i < 20; i++) {
            r.sweep(1);
        }
        Checks.equal("too long ago", r.count(6), 0);
        r.restore();
        Checks.equal("it was not then", r.count(6), 1);
    }

    /** Behind the mark another one is lost in the place of the first one, elsewhere and with another speed. */
    private static void keepsWhereTheyWereLost() {
        CoastRadar r = Checks.radar(12, 16);
        for (int i = 0; i < 3; i++) {
            Checks.sweep(r, 1, 10 * i, -5 * i);
        }
        for (int i = 0; i < 5; i++) {
            r.sweep(1);
        }
        Checks.equal("one is lost", r.count(6), 1);
        r.mark();
        for (int i = 0; i < 13; i++) {
            r.sweep(1);
        }
        for (int i = 0; i < 3; i++) {
            Checks.sweep(r, 1, 3000 - 8 * i, 3000 + 4 * i);
        }
        for (int i = 0; i < 5; i++) {
            r.sweep(1);
        }
        Checks.equal("the other one is lost", r.count(6), 1);
        r.restore();
        // 0 goes on by 10, -5 a tick: from 20, -10 in sweep 2 to 100, -50 in sweep 10.
        r.tune(0, 10, 16, 0);
        for (int i = 0; i < 3; i++) {
            Checks.sweep(r, 1, 124, -18);
        }
        Checks.text("24, 32 away from where it is expected: known again", Checks.names(r), "0");
        r.restore();
        r.tune(0, 10, 16, 0);
        for (int i = 0; i < 3; i++) {
            Checks.sweep(r, 1, 125, -18);
        }
        Checks.text("25, 32 away: not known", Checks.names(r), "1");
    }

    private static void keepsEvents() {
        CoastRadar r = Checks.radar(1, 0);
        for (int sweep = 0; sweep < 26; sweep++) {
            for (int i = 0; i < 10 && sweep % 2 == 0; i++) {
                r.report(0, 50 * i, 100 * sweep, 99);
            }
            r.sweep(1);
        }
        long before = r.digest();
        r.mark();
        Checks.sweep(r, 1, 0, 9000, 50, 9000, 100, 9000);
        Checks.equal("events", r.count(9), 133);
        r.restore();
        Checks.equal("events then", r.count(9), 130);
        Checks.equal("all that were kept", r.digest(), before);
    }

    private static void staysKept() {
        CoastRadar r = Checks.radar(100, 0);
        Checks.sweep(r, 1, 5, 5);
        r.mark();
        long due = r.digest();
        for (int i = 0; i < 3; i++) {
            Checks.sweep(r, 1, 9, 9, 300, 300);
            r.addPlace(true, i, i, 9, 9);
            r.addStation(0, 0, 9);
            Checks.equal("restore()", r.restore(), 1);
            Checks.equal("digest()", r.digest(), due);
            Checks.equal("level", r.level(5, 5), 3);
        }
    }
}
