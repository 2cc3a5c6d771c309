/** Promise 9: the eight steps of a sweep, and its events. */
final class SweepTest {
    public static void main(String[] args) {
        wrongCalls();
        fiveHundred();
        expected();
        gate();
        asManyAsPossible();
        leastSum();
        firstOfSeveral();
        rounded();
        speedLimit();
        states();
        newOnes();
        clutter();
        clutterLimits();
        clutterOrder();
        begins();
        knownAgainDistance();
        knownAgainTime();
        knownAgainInTheSweepOfLoss();
        knownAgainWhereExpected();
        knownAgainWhichOne();
        knownAgainWhoFirst();
        crossings();
        crossingsAlongALine();
        crossingsNotFirm();
        areas();
        areasAndFirmness();
        areasLater();
        eventOrder();
        Checks.end("SweepTest");
    }

    private static void wrongCalls() {
        CoastRadar r = new CoastRadar();
        r.addStation(0, 0, 99);
        r.report(0, 0, 0, 9);
        for (int dt : new int[] {0, 61, -1, Integer.MIN_VALUE, Integer.MAX_VALUE}) {
            Checks.refuses(r, "sweep(" + dt + ")", Checks.ARGUMENT, () -> r.sweep(dt));
        }
        Checks.equal("blips still wait", r.count(3), 1);
        Checks.equal("sweep(1)", r.sweep(1), 0);
        Checks.equal("sweep(60)", r.sweep(60), 0);
        Checks.equal("sweeps", r.count(7), 2);
        Checks.equal("ticks", r.count(8), 61);
        Checks.equal("no blip waits", r.count(3), 0);
    }

    private static void fiveHundred() {
        CoastRadar r = new CoastRadar();
        for (int i = 0; i < 500; i++) {
            Checks.equal("a sweep of nothing", r.sweep(60), 0);
        }
        Checks.refuses(r, "a sweep behind 500", Checks.STATE, () -> r.sweep(60));
        Checks.refuses(r, "a wrong sweep behind 500", Checks.ARGUMENT, () -> r.sweep(61));
        Checks.equal("sweeps", r.count(7), 500);
        Checks.equal("ticks", r.count(8), 30000);
    }

    /** Step 1: speeds of 8 and -8 make half a sixteenth in a tick; the greater number is taken. */
    private static void expected() {
        CoastRadar r = Checks.radar(300, 1);
        Checks.sweep(r, 5, 0, 0);
        Checks.equal("one is joined", Checks.sweep(r, 2, 1, -1), 1);
        Checks.equal("speed x", r.track(0, 2), 8);
        Checks.equal("speed y", r.track(0, 3), -8);
        r.sweep(1);
        Checks.equal("expected x", r.track(0, 0), 17);
        Checks.equal("expected y", r.track(0, 1), -16);
        CoastRadar s = Checks.radar(300, 1);
        Checks.sweep(s, 5, 0, 0);
        Checks.sweep(s, 2, 1, -1);
        s.sweep(5);
        Checks.equal("expected x, 5 ticks on: 2.5", s.track(0, 0), 19);
        Checks.equal("expected y, 5 ticks on: -2.5", s.track(0, 1), -18);
    }

    /** Step 2: a gate is 16 * (gate + 40 * misses), as a square. */
    private static void gate() {
        int[][] places = {{300, 0, 1}, {301, 0, 0}, {180, 240, 1}, {180, -241, 0}, {-180, -240, 1}};
        for (int[] p : places) {
            CoastRadar r = Checks.radar(300, 0);
            Checks.sweep(r, 1, 0, 0);
            Checks.equal("gate 300, blip at " + p[0] + ", " + p[1], Checks.sweep(r, 1, p[0], p[1]), p[2]);
        }
        for (int misses = 1; misses <= 4; misses++) {
            for (int more = 0; more <= 1; more++) {
                CoastRadar r = Checks.radar(20, 0);
                Checks.sweep(r, 1, 0, 0);
                Checks.sweep(r, 1, 0, 0);
                Checks.sweep(r, 1, 0, 0);
                for (int i = 0; i < misses; i++) {
                    r.sweep(1);
                }
                Checks.equal("gate 20, misses " + misses, Checks.sweep(r, 1, 20 + 40 * misses + more, 0), 1 - more);
            }
        }
        CoastRadar r = Checks.radar(20, 0);
        Checks.sweep(r, 1, 0, 0);
        r.sweep(1);
        Checks.equal("a new one that has missed once", Checks.sweep(r, 1, 60, 0), 1);
        Checks.equal("its misses are 0 again", Checks.sweep(r, 1, 81, 0), 0);
    }

    private static void asManyAsPossible() {
        CoastRadar r = Checks.radar(300, 0);
        Checks.sweep(r, 1, 0, 0, 100, 0);
        Checks.equal("both are joined", Checks.sweep(r, 1, 10, 0, -290, 0), 2);
        Checks.text("though the first blip is nearest to the first track", Checks.joins(r, 2), "1 0");
        CoastRadar s = Checks.radar(100, 0);
        Checks.sweep(s, 1, 0, 0, 100, 0, 200, 0, 300, 0);
        Checks.equal("a chain of four", Checks.sweep(s, 1, 0, 0, 100, 0, 200, 0, -100, 0), 4);
        Checks.text("each goes on by one", Checks.joins(s, 4), "1 2 3 0");
        CoastRadar t = Checks.radar(50, 0);
        Checks.sweep(t, 1, 0, 0);
        Checks.equal("a track takes one blip", Checks.sweep(t, 1, 0, 9, 0, 8), 1);
        Checks.text("the nearest one", Checks.joins(t, 2), "1 0");
        CoastRadar u = Checks.radar(50, 0);
        Checks.sweep(u, 1, 0, 9, 0, 8);
        Checks.equal("a blip is taken by one track", Checks.sweep(u, 1, 0, 0), 1);
        Checks.text("the nearest one", Checks.joins(u, 1), "1");
    }

    private static void leastSum() {
        CoastRadar r = Checks.radar(300, 0);
        Checks.sweep(r, 1, 0, 0, 100, 0);
        Checks.equal("both are joined", Checks.sweep(r, 1, 110, 0, 210, 0), 2);
        Checks.text("by squares, not by the nearest pair", Checks.joins(r, 2), "0 1");
        CoastRadar s = Checks.radar(300, 0);
        Checks.sweep(s, 1, 0, 0, 100, 0);
        Checks.equal("both are joined, the blips in the other order", Checks.sweep(s, 1, 210, 0, 110, 0), 2);
        Checks.text("by squares", Checks.joins(s, 2), "1 0");
    }

    private static void firstOfSeveral() {
        CoastRadar r = Checks.radar(300, 0);
        Checks.sweep(r, 1, 0, 0, 100, 100);
        Checks.sweep(r, 1, 100, 0, 0, 100);
        Checks.text("of equal sums the first track has the first blip", Checks.joins(r, 2), "0 1");
        CoastRadar s = Checks.radar(300, 0);
        Checks.sweep(s, 1, -50, 0, 50, 0);
        Checks.sweep(s, 1, 0, 0);
        Checks.text("the first track rather than none", Checks.joins(s, 1), "0");
        CoastRadar t = Checks.radar(300, 0);
        Checks.sweep(t, 1, 0, 0);
        Checks.sweep(t, 1, 0, 50, 30, 40, -50, 0);
        Checks.text("of equal blips the first one", Checks.joins(t, 3), "0 1 2");
        CoastRadar u = Checks.radar(300, 0);
        Checks.sweep(u, 1, 100, 0, 0, 0, 200, 0);
        Checks.sweep(u, 1, 150, 0, 50, 0);
        Checks.text("first track, then the second one", Checks.joins(u, 2), "0 1");
    }

    /** Step 3: halves go to the greater number, for the place and for the speed. */
    private static void rounded() {
        CoastRadar r = Checks.radar(300, 1);
        Checks.sweep(r, 1, 0, 0);
        Checks.sweep(r, 1, 1, -1);
        Checks.equal("speed x: 16 / 1", r.track(0, 2), 16);
        Checks.equal("speed y: -16 / 1", r.track(0, 3), -16);
        r.tune(0, 300, 8, 1);
        Checks.sweep(r, 1, 2, -2);
        Checks.equal("x: 17 and 7.5", r.track(0, 0), 25);
        Checks.equal("y: -17 and -7.5", r.track(0, 1), -24);
        Checks.equal("speed x: 16 and 15", r.track(0, 2), 31);
        Checks.equal("speed y: -16 and -15", r.track(0, 3), -31);
        int[][] speeds = {{32, 1, 0}, {3, 5, -5}, {6, 3, -3}, {11, 1, -1}, {60, 0, 0}, {31, 1, -1}, {33, 0, 0}};
        for (int[] due : speeds) {
            CoastRadar s = Checks.radar(300, 1);
            Checks.sweep(s, 1, 0, 0);
            Checks.sweep(s, due[0], 1, -1);
            Checks.equal("16 / " + due[0], s.track(0, 2), due[1]);
            Checks.equal("-16 / " + due[0], s.track(0, 3), due[2]);
        }
        CoastRadar still = new CoastRadar();
        still.addStation(0, 0, 20000);
        still.tune(0, 300, 0, 0);
        Checks.sweep(still, 1, 0, 0);
        Checks.sweep(still, 1, 99, 99);
        Checks.equal("with a = 0 it stays", still.track(0, 0), 0);
        Checks.equal("but it is joined", still.track(0, 5), 2);
        CoastRadar usual = new CoastRadar();
        usual.addStation(0, 0, 20000);
        Checks.sweep(usual, 1, 0, 0);
        Checks.sweep(usual, 10, 100, 0);
        Checks.equal("a is at first 8", usual.track(0, 0), 800);
        Checks.equal("b is at first 4", usual.track(0, 2), 640);
    }

    private static void speedLimit() {
        CoastRadar r = Checks.radar(2000, 16);
        Checks.sweep(r, 1, 0, 0);
        Checks.sweep(r, 1, 64, -64);
        Checks.equal("the greatest speed", r.track(0, 2), 16384);
        Checks.equal("the least speed", r.track(0, 3), -16384);
        Checks.sweep(r, 1, 129, -129);
        Checks.equal("not greater", r.track(0, 2), 16384);
        Checks.equal("not less", r.track(0, 3), -16384);
        Checks.sweep(r, 1, 192, -192);
        Checks.equal("back from the limit", r.track(0, 2), 16128);
        Checks.equal("back from the least", r.track(0, 3), -16128);
    }

    private static void states() {
        CoastRadar r = Checks.radar(300, 0);
        int[] seen = {1, 1, 1, 0, 1, 0, 0, 0, 0, 1, 0, 0, 0, 0, 0};
        int[] state = {0, 0, 1, 2, 1, 2, 2, 2, 2, 1, 2, 2, 2, 2, -1};
        int[] misses = {0, 0, 0, 1, 0, 1, 2, 3, 4, 0, 1, 2, 3, 4, -1};
        for (int i = 0; i < seen.length; i++) {
            Checks.equal("joined in sweep " + i, seen[i] == 1 ? Checks.sweep(r, 1, 5, 5) : r.sweep(1), i > 0 ? seen[i] : 0);
            if (state[i] >= 0) {
                Checks.equal("state behind sweep " + i, r.track(0, 4), state[i]);
                Checks.equal("misses behind sweep " + i, r.track(0, 6), misses[i]);
                Checks.equal("firm ones behind sweep " + i, r.count(5), state[i] == 1 ? 1 : 0);
            }
        }
        Checks.equal("it is lost", r.count(4), 0);
        Checks.equal("and can be known again", r.count(6), 1);
        Checks.refuses(r, "its name", Checks.BOUNDS, () -> r.track(0, 4));
        Checks.text("events", Checks.events(r), "0:0:0:-1 2:1:0:-1 3:2:0:-1 4:4:0:-1 5:2:0:-1 9:4:0:-1 10:2:0:-1 14:3:0:-1");
    }

    private static void newOnes() {
        CoastRadar r = Checks.radar(300, 0);
        Checks.sweep(r, 1, 5, 5);
        r.sweep(1);
        Checks.equal("a new one with a miss", r.track(0, 6), 1);
        Checks.equal("is new", r.track(0, 4), 0);
        r.sweep(1);
        Checks.equal("with two it ends", r.count(4), 0);
        Checks.equal("and is not lost", r.count(6), 0);
        Checks.text("without an event", Checks.events(r), "0:0:0:-1");
        Checks.sweep(r, 1, 5, 5);
        r.sweep(1);
        Checks.sweep(r, 1, 5, 5);
        r.sweep(1);
        Checks.equal("two misses, not one behind the other", r.track(1, 6), 1);
        Checks.equal("joined twice", r.track(1, 5), 2);
        Checks.sweep(r, 1, 5, 5);
        Checks.equal("firm by the third join", r.track(1, 4), 1);
        Checks.text("events", Checks.events(r), "0:0:0:-1 3:0:1:-1 7:1:1:-1");
    }

    /** Step 4. */
    private static void clutter() {
        CoastRadar r = Checks.radar(300, 0);
        Checks.sweep(r, 1, 0, 0, 900, 900);
        Checks.equal("two begin", r.level(5, 5), 6);
        Checks.sweep(r, 1, 0, 0, 0, 900);
        Checks.equal("one is joined, one begins", r.level(5, 5), 8);
        Checks.sweep(r, 1, 0, 0);
        Checks.equal("one is joined", r.level(5, 5), 7);
        r.sweep(1);
        Checks.equal("no blip", r.level(5, 5), 7);
        CoastRadar s = new CoastRadar();
        s.addStation(0, 0, 9999);
        s.addStation(0, 0, 9999);
        s.report(0, 995, 10, 9);
        s.report(1, 1005, 10, 9);
        s.sweep(1);
        Checks.equal("not the field where it was reported first", s.level(999, 0), 0);
        Checks.equal("but that where it waits", s.level(1000, 0), 3);
        CoastRadar t = Checks.radar(1000, 0);
        Checks.sweep(t, 1, -5, 500);
        Checks.sweep(t, 1, 5, 500);
        Checks.equal("not less than 0", t.level(5, 500), 0);
        Checks.equal("the field of the blip, not of the track", t.level(-5, 500), 3);
    }

    private static void clutterLimits() {
        CoastRadar r = Checks.radar(1, 0);
        for (int sweep = 0; sweep < 3; sweep++) {
            for (int i = 0; i < 10; i++) {
                r.report(0, 100 * i, 10 + 300 * sweep, 99);
            }
            Checks.equal("none is joined", r.sweep(1), 0);
            Checks.equal("level", r.level(0, 0), Math.min(60, 30 + 30 * sweep));
        }
        Checks.equal("a strength of 60", r.report(0, 0, 0, 60), 2);
        Checks.equal("a strength of 61", r.report(0, 0, 0, 61), 0);
    }

    /** At the limit the order of the blips counts. */
    private static void clutterOrder() {
        for (int order = 0; order <= 1; order++) {
            CoastRadar r = Checks.radar(1, 0);
            for (int sweep = 0; sweep < 2; sweep++) {
                for (int i = 0; i < 10; i++) {
                    r.report(0, 100 * i, 10 + 100 * sweep, 99);
                }
                r.sweep(1);
            }
            Checks.equal("level", r.level(0, 0), 60);
            r.sweep(1);
            r.tune(0, 30, 16, 0);
            Checks.sweep(r, 1, 500, 500);
            Checks.equal("level", r.level(0, 0), 60);
            Checks.equal("one is joined", order == 0 ? Checks.sweep(r, 1, 500, 500, 900, 900) : Checks.sweep(r, 1, 900, 900, 500, 500), 1);
            Checks.equal("level by order " + order, r.level(0, 0), order == 0 ? 60 : 59);
        }
    }

    /** Step 5. */
    private static void begins() {
        CoastRadar r = Checks.radar(10, 0);
        Checks.sweep(r, 1, 0, 0, 100, 0, 200, 0, 300, 0, 400, 0, 500, 0, 600, 0, 700, 0);
        Checks.equal("eight tracks", r.count(4), 8);
        Checks.equal("one is joined", Checks.sweep(r, 1, 0, 500, 0, 600, 0, 700, 700, 0, 0, 800), 1);
        Checks.text("two begin, in their order; two are left", Checks.joins(r, 5), "8 9 -1 7 -1");
        Checks.equal("ten tracks", r.count(4), 10);
        Checks.equal("ten names", r.count(10), 10);
        Checks.sweep(r, 1, 0, 700, 0, 500);
        Checks.text("those that end in this sweep make room in it", Checks.joins(r, 2), "10 8");
        Checks.text("names", Checks.names(r), "7 8 9 10");
        int[] due = {0, 700 * 16, 0, 0, 0, 1, 0, 1};
        for (int what = 0; what <= 7; what++) {
            Checks.equal("track(10, " + what + ")", r.track(10, what), due[what]);
        }
        Checks.equal("events", r.count(9), 11);
    }

    /** A radar whose track 0, at a place, was lost in the sweep 7; 8 sweeps, with one tick each. */
    private static CoastRadar withLost(int gate, int... places) {
        CoastRadar r = Checks.radar(gate, 0);
        for (int i = 0; i < 3; i++) {
            Checks.sweep(r, 1, places);
        }
        for (int i = 0; i < 5; i++) {
            Checks.equal("lost ones", r.count(6), 0);
            r.sweep(1);
        }
        Checks.equal("lost ones then", r.count(6), places.length / 2);
        return r;
    }

    /** Step 6: at most 4 * gate away. */
    private static void knownAgainDistance() {
        for (int more = 0; more <= 1; more++) {
            CoastRadar r = withLost(10, 0, 0);
            for (int i = 0; i < 3; i++) {
                Checks.equal("still one is lost", r.count(6), 1);
                Checks.sweep(r, 1, 24, 32 + more);
            }
            Checks.equal("its name", r.name(0), more);
            Checks.equal("the name of its blip", r.blip(0, 4), more);
            Checks.equal("lost ones", r.count(6), more);
            Checks.equal("names that were given", r.count(10), 2);
            String before = "0:0:0:-1 2:1:0:-1 3:2:0:-1 7:3:0:-1 8:0:1:-1 10:1:1:-1";
            Checks.text("events", Checks.events(r), more == 0 ? before + " 10:5:0:1" : before);
        }
        CoastRadar r = withLost(10, 0, 0);
        Checks.sweep(r, 1, 24, 32);
        Checks.sweep(r, 1, 24, 32);
        r.tune(0, 9, 16, 0);
        Checks.sweep(r, 1, 24, 32);
        Checks.equal("the gate of this sweep counts", r.name(0), 1);
    }

    private static void knownAgainTime() {
        for (int late = 0; late <= 1; late++) {
            CoastRadar r = withLost(10, 0, 0);
            for (int i = 0; i < 9 + late; i++) {
                r.sweep(1);
            }
            Checks.sweep(r, 1, 1, 0);
            Checks.sweep(r, 1, 1, 0);
            Checks.equal("lost ones ahead of sweep " + r.count(7), r.count(6), 1 - late);
            Checks.sweep(r, 1, 1, 0);
            Checks.equal("its name", r.name(0), late);
            Checks.equal("lost ones behind it", r.count(6), 0);
        }
        CoastRadar r = withLost(10, 0, 0);
        for (int i = 8; i < 20; i++) {
            Checks.equal("lost ones ahead of sweep " + i, r.count(6), 1);
            r.sweep(1);
        }
        Checks.equal("lost ones ahead of sweep 20", r.count(6), 0);
    }

    private static void knownAgainInTheSweepOfLoss() {
        CoastRadar r = Checks.radar(10, 0);
        for (int i = 0; i < 3; i++) {
            Checks.sweep(r, 1, 0, 0);
        }
        r.sweep(1);
        r.sweep(1);
        Checks.sweep(r, 1, 500, 0);
        Checks.sweep(r, 1, 500, 0);
        r.tune(0, 200, 16, 0);
        Checks.sweep(r, 1, 500, 0);
        Checks.text("events", Checks.events(r), "0:0:0:-1 2:1:0:-1 3:2:0:-1 5:0:1:-1 7:3:0:-1 7:1:1:-1 7:5:0:1");
        Checks.equal("lost ones", r.count(6), 0);
        Checks.text("names", Checks.names(r), "0");
    }

    /** A lost track goes on from where it was lost, and its way of all ticks is rounded once. */
    private static void knownAgainWhereExpected() {
        for (int more = 0; more <= 1; more++) {
            CoastRadar r = Checks.radar(100, 1);
            Checks.sweep(r, 1, 0, 0);
            Checks.sweep(r, 2, 10, 0);
            Checks.equal("speed: 160 / 2", r.track(0, 2), 80);
            Checks.sweep(r, 2, 10, 0);
            Checks.equal("speed: 80 and -10 / 2", r.track(0, 2), 75);
            for (int i = 0; i < 5; i++) {
                r.sweep(60);
            }
            // It was lost at 160 and 5 times the rounded 281.25. 45 ticks on it is 210.94 farther: at 111 places just;
            // three roundings of 15 ticks each would make 210.
            r.tune(0, 4, 16, 0);
            for (int i = 0; i < 3; i++) {
                Checks.sweep(r, 15, 111, -16 - more);
            }
            Checks.equal("4 * gate and " + more + " away from 111, 0", r.name(0), more);
        }
    }

    private static void knownAgainWhichOne() {
        CoastRadar r = withLost(20, 0, 0, 100, 0, 40, 0);
        for (int i = 0; i < 3; i++) {
            Checks.sweep(r, 1, 70, 0);
        }
        Checks.text("of two as near the smallest name", Checks.names(r), "1");
        for (int i = 0; i < 3; i++) {
            Checks.sweep(r, 1, 70, 0, 29, 0);
        }
        Checks.text("the nearest one", Checks.names(r), "1 2");
        Checks.equal("one is left", r.count(6), 1);
        for (int i = 0; i < 3; i++) {
            Checks.sweep(r, 1, 70, 0, 29, 0, 0, 80);
        }
        Checks.text("the one that is left, in order of names", Checks.names(r), "0 1 2");
        Checks.text("the blips by their new names", Checks.joins(r, 3), "1 2 0");
        Checks.equal("sweeps of its own", r.track(0, 7), 3);
        Checks.equal("none is left", r.count(6), 0);
    }

    private static void knownAgainWhoFirst() {
        CoastRadar r = withLost(10, 0, 0);
        for (int i = 0; i < 3; i++) {
            Checks.sweep(r, 1, 30, 0, 5, 0);
        }
        Checks.text("the first name takes it, though the second one is nearer", Checks.names(r), "0 2");
        Checks.equal("it is the first one", r.track(0, 0), 480);
        for (int i = 0; i < 5; i++) {
            Checks.sweep(r, 1, 5, 0);
        }
        Checks.equal("it is lost once more", r.count(6), 1);
        for (int i = 0; i < 3; i++) {
            Checks.sweep(r, 1, 5, 0, 30, 30);
        }
        Checks.text("and known again once more", Checks.names(r), "0 2");
        Checks.equal("with the fourth name", r.count(10), 4);
    }

    /** Step 7. */
    private static void crossings() {
        for (int far = 70; far <= 90; far += 20) {
            CoastRadar r = Checks.radar(300, 16);
            for (int t = 0; t < 5; t++) {
                Checks.sweep(r, 1, 20 * t, 20 * t, 20 * t, far - 20 * t);
            }
            String due = "0:0:0:-1 0:0:1:-1 2:1:0:-1 2:1:1:-1 " + (far == 70 ? 2 : 3) + ":6:0:1";
            Checks.text("an X from " + far, Checks.events(r), due);
        }
        for (int x = 98; x <= 101; x++) {
            CoastRadar r = Checks.radar(300, 0);
            for (int t = 0; t < 3; t++) {
                Checks.sweep(r, 1, 0, 0, 100, 0);
            }
            Checks.equal("no crossing yet", r.count(9), 4);
            Checks.sweep(r, 1, x > 100 ? 100 : x, 0, 100, x > 100 ? 1 : 0);
            Checks.equal("a way that ends at " + x + ", and one that begins at 100", r.count(9), x >= 100 ? 5 : 4);
        }
        CoastRadar same = Checks.radar(300, 0);
        for (int t = 0; t < 3; t++) {
            Checks.sweep(same, 1, 7, 7, 7, 7);
        }
        Checks.text("two that stay at one place", Checks.events(same), "0:0:0:-1 0:0:1:-1 2:1:0:-1 2:1:1:-1 2:6:0:1");
        CoastRadar three = Checks.radar(300, 0);
        for (int t = 0; t < 3; t++) {
            Checks.sweep(three, 1, 7, 7, 7, 7, 7, 7);
        }
        String all = Checks.events(three);
        Checks.text("three at one place", all.substring(all.indexOf("2:6")), "2:6:0:1 2:6:0:2 2:6:1:2");
    }

    private static void crossingsAlongALine() {
        int[][] cases = {{10, 1}, {20, 1}, {21, 0}};
        for (int[] c : cases) {
            for (int slope = -1; slope <= 1; slope++) {
                CoastRadar r = Checks.radar(300, 16);
                for (int t = 0; t < 5; t++) {
                    int x = 20 * t;
                    int ahead = x + c[0];
                    Checks.sweep(r, 1, x, slope * x, ahead, slope * ahead);
                }
                Checks.equal("one behind the other by " + c[0] + ", slope " + slope, r.count(9), 4 + 3 * c[1]);
            }
        }
        CoastRadar r = Checks.radar(300, 16);
        for (int t = 0; t < 5; t++) {
            Checks.sweep(r, 1, 20 * t, 0, 20 * t, 1);
        }
        Checks.equal("side by side", r.count(9), 4);
        CoastRadar s = Checks.radar(300, 0);
        for (int t = 0; t < 3; t++) {
            Checks.sweep(s, 1, 0, 0, 100, 50);
        }
        Checks.sweep(s, 1, 0, 0, 80, 40);
        Checks.equal("a way in the line of a place, short of it", s.count(9), 4);
    }

    private static void crossingsNotFirm() {
        CoastRadar r = Checks.radar(300, 16);
        for (int t = 0; t < 3; t++) {
            Checks.sweep(r, 1, 20 * t, 20 * t, 20 * t, 90 - 20 * t);
        }
        Checks.sweep(r, 1, 60, 60);
        Checks.text("one coasts", Checks.events(r), "0:0:0:-1 0:0:1:-1 2:1:0:-1 2:1:1:-1 3:2:1:-1");
        CoastRadar s = Checks.radar(300, 16);
        Checks.sweep(s, 1, 0, 0);
        Checks.sweep(s, 1, 20, 20);
        Checks.sweep(s, 1, 40, 40, 40, 50);
        Checks.sweep(s, 1, 60, 60, 60, 30);
        Checks.text("one is new", Checks.events(s), "0:0:0:-1 2:1:0:-1 2:0:1:-1");
    }

    /** Step 8: sides count as inside. */
    private static void areas() {
        CoastRadar r = Checks.radar(300, 0);
        r.addPlace(true, 100, 0, 200, 100);
        int[] x = {50, 60, 99, 100, 150, 201, 200, 150};
        for (int i = 0; i < x.length; i++) {
            Checks.sweep(r, 1, x[i], i < 6 ? 50 : 100);
        }
        Checks.sweep(r, 1, 150, 101);
        Checks.text("in and out", Checks.events(r), "0:0:0:-1 2:1:0:-1 3:7:0:0 5:8:0:0 6:7:0:0 8:8:0:0");
        CoastRadar s = Checks.radar(300, 0);
        s.addPlace(true, 100, 0, 200, 100);
        for (int i = 0; i < 3; i++) {
            Checks.sweep(s, 1, 200, 0);
        }
        s.tune(0, 300, 1, 0);
        Checks.sweep(s, 1, 201, 0);
        Checks.equal("a sixteenth out of it", s.track(0, 0), 3201);
        Checks.text("is out", Checks.events(s), "0:0:0:-1 2:1:0:-1 2:7:0:0 3:8:0:0");
        Checks.equal("inside() says so too", s.inside(0), 0);
    }

    private static void areasAndFirmness() {
        CoastRadar r = Checks.radar(300, 0);
        r.addPlace(true, 0, 0, 100, 100);
        r.addPlace(true, 50, 50, 60, 60);
        for (int i = 0; i < 3; i++) {
            Checks.equal("none is inside yet", r.inside(0), 0);
            Checks.sweep(r, 1, 50, 50);
        }
        Checks.equal("it is inside", r.inside(0), 1);
        r.sweep(1);
        Checks.equal("one that coasts is not inside", r.inside(0), 0);
        Checks.sweep(r, 1, 50, 50);
        r.sweep(1);
        Checks.sweep(r, 1, 300, 50);
        Checks.text("entering by being firm, coasting without leaving", Checks.events(r),
            "0:0:0:-1 2:1:0:-1 2:7:0:0 2:7:0:1 3:2:0:-1 4:4:0:-1 4:7:0:0 4:7:0:1 5:2:0:-1 6:4:0:-1");
    }

    private static void areasLater() {
        CoastRadar r = Checks.radar(300, 0);
        for (int i = 0; i < 3; i++) {
            Checks.sweep(r, 1, 50, 50, 500, 500);
        }
        r.addPlace(true, 0, 0, 600, 600);
        Checks.equal("both are inside at once", r.inside(0), 3);
        Checks.equal("without an event", r.count(9), 4);
        Checks.sweep(r, 1, 50, 50, 601, 500);
        Checks.text("one enters, one was never in", Checks.events(r), "0:0:0:-1 0:0:1:-1 2:1:0:-1 2:1:1:-1 3:7:0:0");
    }

    private static void eventOrder() {
        CoastRadar r = Checks.radar(10, 0);
        r.addPlace(true, 0, 0, 1000, 1000);
        r.addPlace(true, 0, 0, 500, 500);
        // 0 is lost in sweep 9, 1 coasts in it and 2 becomes firm; 3 becomes firm, takes the name 0 and crosses 2.
        for (int i = 0; i < 3; i++) {
            Checks.sweep(r, 1, 100, 100, 800, 800);
        }
        r.tune(0, 40, 16, 0);
        Checks.sweep(r, 1, 800, 800);
        Checks.sweep(r, 1, 800, 800);
        Checks.sweep(r, 1, 800, 800, 400, 100, 400, 100);
        Checks.sweep(r, 1, 800, 800, 400, 100, 400, 100);
        int before = r.count(9);
        r.tune(0, 80, 16, 0);
        Checks.sweep(r, 1, 400, 100, 400, 100, 900, 0);
        String all = Checks.events(r);
        Checks.equal("events", r.count(9), before + 11);
        Checks.text("all steps in their order", all.substring(all.indexOf("7:3:0:-1")),
            "7:3:0:-1 7:2:1:-1 7:1:2:-1 7:1:3:-1 7:0:4:-1 7:5:0:2 7:6:0:3 7:7:0:0 7:7:3:0 7:7:0:1 7:7:3:1");
    }
}
