/** Promises 1 to 6: a new object, stations, places, sight, levels, tuning. */
final class CoastTest {
    public static void main(String[] args) {
        newObject();
        addStation();
        addPlace();
        seesInRange();
        seesPastLand();
        seesWrong();
        level();
        tune();
        Checks.end("CoastTest");
    }

    private static void newObject() {
        CoastRadar r = new CoastRadar();
        for (int what = 0; what <= 10; what++) {
            Checks.equal("count(" + what + ") of a new object", r.count(what), 0);
        }
        long d = 431;
        for (int what = 0; what <= 10; what++) {
            d = d * 31;
        }
        Checks.equal("digest() of a new object", r.digest(), d);
        Checks.equal("the gate of a new object", r.tune(100, 300, 8, 4), 300);
        Checks.equal("level of a new object", r.level(0, 0), 0);
        Checks.refuses(r, "no station yet", Checks.BOUNDS, () -> r.report(0, 0, 0, 1));
        Checks.refuses(r, "no area yet", Checks.BOUNDS, () -> r.inside(0));
        Checks.refuses(r, "no track yet", Checks.BOUNDS, () -> r.name(0));
        Checks.refuses(r, "no event yet", Checks.BOUNDS, () -> r.event(0, 0));
        Checks.refuses(r, "nothing kept yet", Checks.STATE, () -> r.restore());
        CoastRadar other = new CoastRadar();
        r.addStation(0, 0, 1);
        Checks.equal("objects share nothing", other.count(0), 0);
    }

    private static void addStation() {
        CoastRadar r = new CoastRadar();
        int[][] wrong = {{-10000, 0, 5}, {10000, 0, 5}, {0, -10000, 5}, {0, 10000, 5}, {0, 0, 0}, {0, 0, 20001}, {0, 0, -1},
            {Integer.MIN_VALUE, 0, 5}, {0, Integer.MAX_VALUE, 5}, {0, 0, Integer.MIN_VALUE}};
        for (int[] w : wrong) {
            Checks.refuses(r, "addStation(" + w[0] + ", " + w[1] + ", " + w[2] + ")", Checks.ARGUMENT, () -> r.addStation(w[0], w[1], w[2]));
        }
        Checks.equal("first station", r.addStation(-9999, 9999, 1), 0);
        Checks.equal("second station", r.addStation(9999, -9999, 20000), 1);
        Checks.equal("third station", r.addStation(9999, -9999, 20000), 2);
        Checks.equal("fourth station", r.addStation(0, 0, 7), 3);
        Checks.refuses(r, "a fifth station", Checks.STATE, () -> r.addStation(0, 0, 7));
        Checks.refuses(r, "a fifth, wrong station", Checks.ARGUMENT, () -> r.addStation(0, 0, 0));
        Checks.equal("stations", r.count(0), 4);
    }

    private static void addPlace() {
        CoastRadar r = new CoastRadar();
        int[][] wrong = {{-10000, 0, 5, 5}, {0, -10000, 5, 5}, {0, 0, 10000, 5}, {0, 0, 5, 10000}, {5, 0, 5, 5}, {0, 5, 5, 5},
            {6, 0, 5, 5}, {0, 6, 5, 5}, {Integer.MIN_VALUE, 0, Integer.MAX_VALUE, 5}};
        for (int[] w : wrong) {
            for (int area = 0; area <= 1; area++) {
                boolean isArea = area == 1;
                Checks.refuses(r, "addPlace(" + isArea + ", " + w[0] + ", " + w[1] + ", " + w[2] + ", " + w[3] + ")", Checks.ARGUMENT,
                    () -> r.addPlace(isArea, w[0], w[1], w[2], w[3]));
            }
        }
        for (int i = 0; i < 6; i++) {
            Checks.equal("land", r.addPlace(false, -9999, -9999, 9999, 9999), i);
            Checks.equal("area", r.addPlace(true, i, i, i + 1, i + 1), i);
        }
        Checks.refuses(r, "a seventh area", Checks.STATE, () -> r.addPlace(true, 0, 0, 1, 1));
        Checks.refuses(r, "a seventh, wrong area", Checks.ARGUMENT, () -> r.addPlace(true, 0, 0, 0, 1));
        for (int i = 6; i < 10; i++) {
            Checks.equal("more land", r.addPlace(false, i, i, i + 1, i + 1), i);
        }
        Checks.refuses(r, "an eleventh piece of land", Checks.STATE, () -> r.addPlace(false, 0, 0, 1, 1));
        Checks.refuses(r, "an eleventh, wrong piece of land", Checks.ARGUMENT, () -> r.addPlace(false, 0, 0, 1, 0));
        Checks.equal("land", r.count(1), 10);
        Checks.equal("areas", r.count(2), 6);
    }

    private static void seesInRange() {
        CoastRadar r = new CoastRadar();
        r.addStation(10, -20, 100);
        r.addStation(-9999, -9999, 20000);
        Checks.isTrue("its own place", r.sees(0, 10, -20));
        Checks.isTrue("just at its range", r.sees(0, 110, -20));
        Checks.isTrue("at its range, aslant (60, 80)", r.sees(0, 70, 60));
        Checks.isFalse("just out of its range", r.sees(0, 111, -20));
        Checks.isFalse("out of its range, aslant (60, 81)", r.sees(0, 70, 61));
        Checks.isFalse("out of its range, aslant (-60, -81)", r.sees(0, -50, -101));
        Checks.isTrue("far", r.sees(1, 9999, -9999));
        Checks.isFalse("the farthest corner", r.sees(1, 9999, 9999));
        CoastRadar near = new CoastRadar();
        near.addStation(0, 0, 1);
        Checks.isTrue("the place beside, with the range 1", near.sees(0, 0, -1));
        Checks.isFalse("the place beside, aslant, with the range 1", near.sees(0, 1, 1));
        r.addPlace(true, 20, -30, 50, -10);
        Checks.isTrue("an area hides nothing", r.sees(0, 100, -20));
    }

    private static void seesPastLand() {
        CoastRadar r = new CoastRadar();
        r.addStation(0, 0, 20000);
        r.addStation(150, 150, 20000);
        r.addStation(100, 150, 20000);
        r.addPlace(false, 100, 100, 200, 200);
        Checks.isFalse("behind land", r.sees(0, 300, 300));
        Checks.isFalse("behind land, a little aslant", r.sees(0, 300, 299));
        Checks.isFalse("in land", r.sees(0, 150, 150));
        Checks.isFalse("one place inside of land", r.sees(0, 101, 101));
        Checks.isTrue("at the corner of land", r.sees(0, 100, 100));
        Checks.isTrue("at the side of land", r.sees(0, 100, 150));
        Checks.isTrue("ahead of land", r.sees(0, 99, 99));
        Checks.isTrue("along the corner 100, 200 and on", r.sees(0, 150, 300));
        Checks.isFalse("by a fraction inside of the corner 100, 200", r.sees(0, 151, 301));
        Checks.isTrue("by a fraction outside of the corner 100, 200", r.sees(0, 150, 301));
        Checks.isTrue("along the corner 200, 100 and on", r.sees(0, 300, 150));
        Checks.isFalse("by a fraction inside of the corner 200, 100", r.sees(0, 301, 151));
        Checks.isTrue("away from land", r.sees(0, -300, -300));
        Checks.isTrue("beside land", r.sees(0, 0, 300));
        Checks.isFalse("a station in land sees nothing", r.sees(1, 500, 500));
        Checks.isFalse("a station in land does not see its own place", r.sees(1, 150, 150));
        Checks.isTrue("a station on a side of land sees along it", r.sees(2, 100, 9000));
        Checks.isTrue("a station on a side of land sees its own place", r.sees(2, 100, 150));
        Checks.isFalse("a station on a side of land does not see through it", r.sees(2, 300, 150));
        CoastRadar s = new CoastRadar();
        s.addStation(0, 5, 20000);
        s.addPlace(false, 10, -9999, 11, 9999);
        Checks.isFalse("a wall with fractions alone inside, along x", s.sees(0, 20, 5));
        Checks.isFalse("a wall with fractions alone inside, aslant", s.sees(0, 11, 6));
        Checks.isTrue("at the near side of the wall", s.sees(0, 10, 7000));
        s.addPlace(false, -9999, 9, -1, 10);
        Checks.isFalse("the second piece of land hides too", s.sees(0, -20, 15));
        Checks.isTrue("along the side of the second piece", s.sees(0, -1, 5));
        s.addPlace(false, -9999, 5, 9, 6);
        Checks.isTrue("along the side of the third piece", s.sees(0, 9, 5));
        Checks.isFalse("up through the third piece", s.sees(0, 0, 7));
    }

    private static void seesWrong() {
        CoastRadar r = new CoastRadar();
        Checks.refuses(r, "sees() without stations", Checks.BOUNDS, () -> r.sees(0, 0, 0) ? 1 : 0);
        r.addStation(0, 0, 5);
        Checks.refuses(r, "sees(-1, ..)", Checks.BOUNDS, () -> r.sees(-1, 0, 0) ? 1 : 0);
        Checks.refuses(r, "sees(1, ..)", Checks.BOUNDS, () -> r.sees(1, 0, 0) ? 1 : 0);
        Checks.refuses(r, "sees(1, 10000, ..)", Checks.BOUNDS, () -> r.sees(1, 10000, 0) ? 1 : 0);
        int[][] wrong = {{10000, 0}, {-10000, 0}, {0, 10000}, {0, -10000}};
        for (int[] w : wrong) {
            Checks.refuses(r, "sees(0, " + w[0] + ", " + w[1] + ")", Checks.ARGUMENT, () -> r.sees(0, w[0], w[1]) ? 1 : 0);
        }
    }

    private static void level() {
        CoastRadar r = new CoastRadar();
        int[][] wrong = {{10000, 0}, {-10000, 0}, {0, 10000}, {0, -10000}, {Integer.MIN_VALUE, 0}, {0, Integer.MAX_VALUE}};
        for (int[] w : wrong) {
            Checks.refuses(r, "level(" + w[0] + ", " + w[1] + ")", Checks.ARGUMENT, () -> r.level(w[0], w[1]));
        }
        r.addStation(-500, -500, 20000);
        r.report(0, -1, -1000, 50);
        r.sweep(60);
        Checks.equal("a blip that is not joined", r.level(-500, -500), 3);
        Checks.equal("the same field, its least place", r.level(-1000, -1000), 3);
        Checks.equal("the same field, its greatest place", r.level(-1, -1), 3);
        Checks.equal("the field beside, x", r.level(0, -1), 0);
        Checks.equal("the field beside, y", r.level(-1, 0), 0);
        Checks.equal("the field ahead, x", r.level(-1001, -1), 0);
        Checks.equal("the field ahead, y", r.level(-1, -1001), 0);
        CoastRadar corner = new CoastRadar();
        corner.addStation(9999, 9999, 9);
        corner.addStation(-9999, 9999, 9);
        corner.report(0, 9999, 9999, 1);
        corner.report(1, -9999, 9999, 1);
        corner.sweep(1);
        Checks.equal("the field at the greatest corner", corner.level(9000, 9000), 3);
        Checks.equal("the field at the other corner", corner.level(-9001, 9000), 3);
        Checks.equal("not behind it", corner.level(-9000, 9000), 0);
    }

    private static void tune() {
        CoastRadar r = new CoastRadar();
        int[][] wrong = {{-1, 300, 8, 4}, {501, 300, 8, 4}, {100, 0, 8, 4}, {100, 2001, 8, 4}, {100, 300, -1, 4}, {100, 300, 17, 4},
            {100, 300, 8, -1}, {100, 300, 8, 17}};
        for (int[] w : wrong) {
            Checks.refuses(r, "tune(" + w[0] + ", " + w[1] + ", " + w[2] + ", " + w[3] + ")", Checks.ARGUMENT, () -> r.tune(w[0], w[1], w[2], w[3]));
        }
        Checks.equal("the gate is as it was", r.tune(0, 1, 0, 0), 300);
        Checks.equal("the least gate", r.tune(500, 2000, 16, 16), 1);
        Checks.equal("the greatest gate", r.tune(100, 7, 8, 4), 2000);
        // A wrong call keeps the blur, a and b too, which only later calls can tell.
        CoastRadar s = new CoastRadar();
        s.addStation(0, 0, 5000);
        s.addStation(0, 0, 5000);
        s.tune(10, 300, 16, 0);
        Checks.thrown(() -> s.tune(500, 300, 0, 17));
        s.report(0, 0, 0, 9);
        s.report(1, 0, 11, 9);
        Checks.equal("the blur is as it was", s.count(3), 2);
        s.sweep(1);
        s.report(0, 40, 0, 9);
        s.sweep(1);
        Checks.equal("a is as it was: 16 sixteenths", s.track(0, 0), 640);
        Checks.equal("b is as it was: none", s.track(0, 2), 0);
    }
}
