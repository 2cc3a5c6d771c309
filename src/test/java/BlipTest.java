/** Promises 7 and 8: reports, and what can be told of blips. */
final class BlipTest {
    public static void main(String[] args) {
        reportRefused();
        reportFull();
        reportMerged();
        reportWrong();
        blipTold();
        blipWrong();
        Checks.end("BlipTest");
    }

    private static void reportRefused() {
        CoastRadar r = new CoastRadar();
        r.addStation(0, 0, 1000);
        r.addPlace(false, 100, 100, 200, 200);
        Checks.equal("out of range", r.report(0, 1001, 0, 99), 1);
        Checks.equal("behind land", r.report(0, 300, 300, 99), 1);
        Checks.equal("nothing waits", r.count(3), 0);
        Checks.equal("the least strength, at level 0", r.report(0, 50, 0, 1), 0);
        Checks.equal("it waits", r.count(3), 1);
        r.sweep(1);
        Checks.equal("level", r.level(50, 0), 3);
        Checks.equal("as strong as the level", r.report(0, 500, 0, 3), 2);
        Checks.equal("nothing waits then", r.count(3), 0);
        Checks.equal("stronger than the level", r.report(0, 500, 0, 4), 0);
        Checks.equal("weak, but in another field", r.report(0, -500, 0, 1), 0);
        Checks.equal("not seen and weak", r.report(0, 900, 900, 1), 1);
    }

    private static void reportFull() {
        CoastRadar r = new CoastRadar();
        r.addStation(0, 0, 5000);
        r.addStation(0, 0, 500);
        for (int i = 0; i < 10; i++) {
            Checks.equal("blip " + i, r.report(0, i * 300, 0, 50), 0);
        }
        Checks.equal("an eleventh blip", r.report(0, 0, 3000, 50), 3);
        Checks.equal("an eleventh blip that its station has seen", r.report(0, 0, 0, 50), 3);
        Checks.equal("not seen, ahead of full", r.report(1, 0, 3000, 50), 1);
        Checks.equal("put together, ahead of full", r.report(1, 310, 0, 60), 0);
        Checks.equal("ten wait", r.count(3), 10);
        Checks.equal("where it is", r.blip(1, 0), 305);
        r.sweep(1);
        Checks.equal("room again", r.report(0, 0, 3000, 50), 0);
        CoastRadar s = new CoastRadar();
        s.addStation(0, 0, 5000);
        s.tune(0, 300, 8, 4);
        for (int i = 0; i < 10; i++) {
            s.report(0, i * 90, 0, 50);
        }
        s.sweep(1);
        Checks.equal("level 30", s.level(0, 0), 30);
        for (int i = 0; i < 10; i++) {
            s.report(0, 0, i * 100 + 1500, 50);
        }
        Checks.equal("weak, ahead of full", s.report(0, 0, 0, 30), 2);
        Checks.equal("full", s.report(0, 0, 0, 31), 3);
    }

    private static void reportMerged() {
        CoastRadar r = new CoastRadar();
        r.addStation(0, 0, 5000);
        r.addStation(0, 0, 5000);
        r.addStation(0, 0, 5000);
        r.report(0, -100, 0, 20);
        Checks.equal("the same station again", r.report(0, -100, 0, 90), 0);
        Checks.equal("is a blip of its own", r.count(3), 2);
        Checks.equal("just at the blur (60, 80)", r.report(1, -40, 81, 10), 0);
        Checks.equal("is a blip of its own, one too far", r.count(3), 3);
        Checks.equal("just at the blur", r.report(2, -40, -80, 10), 0);
        Checks.equal("is none of its own", r.count(3), 3);
        Checks.equal("the first such blip, its x", r.blip(0, 0), -70);
        Checks.equal("the first such blip, its y", r.blip(0, 1), -40);
        Checks.equal("the greater strength, the one before", r.blip(0, 2), 20);
        Checks.equal("both have seen it", r.blip(0, 3), 5);
        Checks.equal("the second is as it was", r.blip(1, 3), 1);
        Checks.equal("another report of the same station", r.report(2, -71, -41, 95), 0);
        Checks.equal("goes to the next blip", r.blip(1, 3), 5);
        Checks.equal("the greater strength, the new one", r.blip(1, 2), 95);
        Checks.equal("cut downwards, x", r.blip(1, 0), -86);
        Checks.equal("cut downwards, y", r.blip(1, 1), -21);
        r.report(1, -71, -41, 9);
        Checks.equal("the third station", r.blip(0, 3), 7);
        Checks.equal("cut downwards again, x", r.blip(0, 0), -71);
        Checks.equal("cut downwards again, y", r.blip(0, 1), -41);
        CoastRadar s = new CoastRadar();
        s.addStation(0, 0, 5000);
        s.addStation(0, 0, 5000);
        s.tune(0, 300, 8, 4);
        s.report(0, 5, 5, 20);
        s.report(1, 5, 6, 20);
        Checks.equal("with the blur 0 not the next place", s.count(3), 2);
        s.report(1, 5, 5, 20);
        Checks.equal("but the same place", s.count(3), 2);
        s.sweep(1);
        s.report(1, 5, 5, 20);
        Checks.equal("blips that were swept are not looked at", s.count(3), 1);
        Checks.equal("seen by the one alone", s.blip(0, 3), 2);
        Checks.equal("odd sums above 0 are cut downwards", oddMiddle(), 7);
    }

    private static int oddMiddle() {
        CoastRadar r = new CoastRadar();
        r.addStation(0, 0, 50);
        r.addStation(0, 0, 50);
        r.report(0, 7, 0, 9);
        r.report(1, 8, 0, 9);
        return r.blip(0, 0);
    }

    private static void reportWrong() {
        CoastRadar r = new CoastRadar();
        Checks.refuses(r, "no station", Checks.BOUNDS, () -> r.report(0, 0, 0, 50));
        r.addStation(0, 0, 20000);
        Checks.refuses(r, "station -1", Checks.BOUNDS, () -> r.report(-1, 0, 0, 50));
        Checks.refuses(r, "station 1", Checks.BOUNDS, () -> r.report(1, 0, 0, 50));
        Checks.refuses(r, "station 1 and a wrong strength", Checks.BOUNDS, () -> r.report(1, 0, 0, 0));
        int[][] wrong = {{10000, 0, 9}, {-10000, 0, 9}, {0, 10000, 9}, {0, -10000, 9}, {0, 0, 0}, {0, 0, 100}, {0, 0, -5}};
        for (int[] w : wrong) {
            Checks.refuses(r, "report(0, " + w[0] + ", " + w[1] + ", " + w[2] + ")", Checks.ARGUMENT, () -> r.report(0, w[0], w[1], w[2]));
        }
        Checks.equal("the greatest strength", r.report(0, 9999, 9999, 99), 0);
        Checks.equal("the least place", r.report(0, -9999, -9999, 1), 0);
    }

    private static void blipTold() {
        CoastRadar r = new CoastRadar();
        r.addStation(0, 0, 5000);
        r.report(0, 10, 20, 30);
        r.report(0, 1000, -20, 40);
        int[] first = {10, 20, 30, 1, -1};
        int[] second = {1000, -20, 40, 1, -1};
        for (int what = 0; what <= 4; what++) {
            Checks.equal("waiting blip 0, " + what, r.blip(0, what), first[what]);
            Checks.equal("waiting blip 1, " + what, r.blip(1, what), second[what]);
        }
        r.sweep(1);
        Checks.equal("the name that blip 0 began", r.blip(0, 4), 0);
        Checks.equal("the name that blip 1 began", r.blip(1, 4), 1);
        Checks.equal("a swept blip keeps its x", r.blip(1, 0), 1000);
        Checks.equal("a refused report", r.report(0, 5001, 0, 40), 1);
        Checks.equal("hides no swept blip", r.blip(1, 4), 1);
        r.report(0, 1001, -20, 41);
        Checks.equal("a waiting one hides the swept ones", r.blip(0, 0), 1001);
        Checks.refuses(r, "blip(1, 0) behind one that waits", Checks.BOUNDS, () -> r.blip(1, 0));
        r.sweep(1);
        Checks.equal("joined to the track 1", r.blip(0, 4), 1);
        r.sweep(1);
        Checks.refuses(r, "a sweep without blips", Checks.BOUNDS, () -> r.blip(0, 0));
    }

    private static void blipWrong() {
        CoastRadar r = new CoastRadar();
        Checks.refuses(r, "no blip", Checks.BOUNDS, () -> r.blip(0, 0));
        r.addStation(0, 0, 5000);
        r.report(0, 10, 20, 30);
        Checks.refuses(r, "blip(-1, 0)", Checks.BOUNDS, () -> r.blip(-1, 0));
        Checks.refuses(r, "blip(1, 0)", Checks.BOUNDS, () -> r.blip(1, 0));
        Checks.refuses(r, "blip(0, -1)", Checks.BOUNDS, () -> r.blip(0, -1));
        Checks.refuses(r, "blip(0, 5)", Checks.BOUNDS, () -> r.blip(0, 5));
        Checks.refuses(r, "blip(MAX, MIN)", Checks.BOUNDS, () -> r.blip(Integer.MAX_VALUE, Integer.MIN_VALUE));
    }
}
