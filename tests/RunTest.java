/** Promises 10 to 12: RUNS second by second, reckoned by hand. */
final class RunTest {
    private static final int MISSING = Testing.MISSING;
    private static final long NO_LONG = Testing.NO_LONG;

    public static void main(String[] args) {
        plainRun();
        wrongCalls();
        withoutAHand();
        whatHeSees();
        whatHeWants();
        whatSheDoes();
        slips();
        tallies();
        peaks();
        Testing.close("RunTest");
    }

    private static void due(String call, long got, long want) {
        Testing.due(call, got, want);
    }

    private static void plainRun() {
        HelmHand x = Testing.with("turn 1;calm 0;start 100 0;", "far 50;");
        Testing.dueRow("p10", x, 0, 0, 100, 65, -2, -68, -100, -97, -59, 8, 71);
        Testing.dueRow("p10", x, 0, 1, 0, -35, -67, -66, -32, 3, 38, 67, 63);
        Testing.dueRow("p10", x, 0, 2, 0, -35, -32, 1, 34, 35, 35, 29, -4);
        Testing.dueRow("p10", x, 0, 3, 0, 100, 65, -2, -68, -100, -97, -59, 8);
    }

    private static void wrongCalls() {
        HelmHand x = Testing.with("start 7 8;", "far 1;");
        due("p10 t -1", x.second(0, 0, 0, -1, 0), MISSING);
        due("p10 t 401", x.second(0, 0, 0, 401, 0), MISSING);
        due("p10 t 400", x.second(0, 0, 0, 400, 0) == MISSING ? 0 : 1, 1);
        due("p10 what 4", x.second(0, 0, 0, 1, 4), MISSING);
        due("p10 what -1", x.second(0, 0, 0, 1, -1), MISSING);
        due("p10 no SHIP", x.second(1, 0, 0, 1, 0), MISSING);
        due("p10 no SHIP", x.second(-1, 0, 0, 1, 0), MISSING);
        due("p10 no HAND", x.second(0, 1, 0, 1, 0), MISSING);
        due("p10 no HAND", x.second(0, -2, 0, 1, 0), MISSING);
        due("p11 n 0", x.run(0, 0, 0, 0, 0), NO_LONG);
        due("p11 n 401", x.run(0, 0, 0, 401, 0), NO_LONG);
        due("p11 n 400", x.run(0, 0, 0, 400, 0) == NO_LONG ? 0 : 1, 1);
        due("p11 what 10", x.run(0, 0, 0, 1, 10), NO_LONG);
        due("p11 what -1", x.run(0, 0, 0, 1, -1), NO_LONG);
        due("p11 no SHIP", x.run(1, 0, 0, 1, 0), NO_LONG);
        due("p11 no HAND", x.run(0, 1, 0, 1, 0), NO_LONG);
        due("p11 no HAND", x.run(0, -2, 0, 1, 0), NO_LONG);
        due("p12 n 0", x.peak(0, 0, 0, 0, 0), -1);
        due("p12 n 401", x.peak(0, 0, 0, 401, 0), -1);
        due("p12 n 400", x.peak(0, 0, 0, 400, 0) == -1 ? 0 : 1, 1);
        due("p12 no SHIP", x.peak(1, 0, 0, 1, 0), -1);
        due("p12 no HAND", x.peak(0, 1, 0, 1, 0), -1);
        due("p12 no HAND", x.peak(0, -2, 0, 1, 0), -1);
    }

    private static void withoutAHand() {
        HelmHand x = Testing.with("turn 9;calm 0;start 100 5;", "far 50;");
        due("p10 NONE: HEADING", x.second(0, -1, 0, 3, 0), 115);
        due("p10 NONE: PACE", x.second(0, -1, 0, 3, 1), 5);
        due("p10 NONE: RUDDER", x.second(0, -1, 0, 3, 2), 0);
        due("p10 NONE: what he SAW", x.second(0, -1, 0, 3, 3), 0);
        due("p11 NONE", x.run(0, -1, 0, 3, 0), 330);
        due("p12 NONE", x.peak(0, -1, 0, 3, 0), 115);
        // A HAND in a RUN ahead leaves nothing behind for one without.
        due("p10 a HAND", x.second(0, 0, 0, 1, 2), -35);
        due("p10 NONE: what he SAW", x.second(0, -1, 0, 2, 3), 0);
    }

    private static void whatHeSees() {
        String steady = "turn 0;calm 0;start 3 10;";
        Testing.dueSteering("LAG 0", steady, "", 3, 0, 3, 13, 23, 33);
        Testing.dueSteering("LAG 2", steady + "lag 2;", "", 3, 0, 3, 3, 3, 13, 23);
        Testing.dueSteering("LAG 9", steady + "lag 9;", "", 3, 0, 3, 3, 3, 3, 3, 3, 3, 3, 3, 3, 13, 23);
        Testing.dueSteering("TIRED 2", steady, "tired 2;", 3, 0, 3, 3, 13, 13, 23, 23, 33);
        Testing.dueSteering("TIRED 1, 5 at most", steady + "lag 1;", "tired 1;", 3, 0, 3, 3, 3, 3, 3, 3, 3, 13, 23);
        Testing.dueSteering("STARS", steady + "lag 3;", "star 2 3;star 5 5;", 3, 0, 3, 13, 23, 3, 43, 23);
        Testing.dueSteering("a STAR of one TIRED", steady + "lag 3;", "tired 1;star 4 4;", 3, 0, 3, 3, 3, 33, 3);
        Testing.dueSteering("POINT", steady, "point 5;", 3, 0, 0, 10, 20, 30, 40, 50);
        Testing.dueSteering("POINT cuts towards 0", "turn 0;calm 0;start -3 -10;", "point 5;", 3, 0, 0, -10, -20);
    }

    private static void whatHeWants() {
        String still = "turn 0;calm 100;";
        Testing.dueSteering("FAR", still + "start 70 0;", "far 50;", 2, 0, -35, -35);
        Testing.dueSteering("FAR, cut", still + "start 33 0;", "far 10;", 2, 0, -3, -3);
        Testing.dueSteering("FAR, cut", still + "start -39 0;", "far 10;", 2, 0, 3, 3);
        Testing.dueSteering("QUICK, not in the first second", still + "start 50 0;sea 10 20;", "quick 50;", 2, 0, 0, -5, -10, -5);
        Testing.dueSteering("BEEN", still + "start 500 0;", "been 99;", 2, 0, -4, -9, -14, -19);
        Testing.dueSteering("SUM within 9999", still + "start 999 0;most 35;", "been 30;", 2,
            0, -2, -5, -8, -11, -14, -17, -20, -23, -26, -29, -29, -29);
        Testing.dueSteering("SUM within -9999", still + "start -999 0;", "been 30;", 2,
            0, 2, 5, 8, 11, 14, 17, 20, 23, 26, 29, 29, 29);
        Testing.dueSteering("MOST", still + "start 999 0;most 7;", "far 50;", 2, 0, -7, -7);
        Testing.dueSteering("GEAR", still + "start 999 0;gear 15;", "far 50;", 2, 0, -15, -30, -35, -35);
        Testing.dueSteering("GEAR the other way", still + "start -999 0;gear 15;most 20;", "far 50;", 2, 0, 15, 20, 20);
        Testing.dueSteering("DEAD, its edge", still + "start 20 0;sea 1 -1;", "far 50;dead 20;", 2, 0, 0, -10, 0, -10);
        Testing.dueSteering("DEAD, its other edge", still + "start -20 0;sea -1 1;", "far 50;dead 20;", 2, 0, 0, 10, 0, 10);
        Testing.dueSteering("DEAD 0: he SEES 0", still + "start 10 0;sea -10 5;", "quick 50;", 2, 0, 0, 0, -2);
        Testing.dueSteering("EASY", still + "start 50 0;sea -10 4;", "far 20;easy;", 2, 0, -10, 0, -8, 0);
        Testing.dueSteering("EASY", still + "start -50 0;sea 10 -4;", "far 20;easy;", 2, 0, 10, 0, 8, 0);
        Testing.dueSteering("not EASY", still + "start 50 0;sea -10 4;", "far 20;", 2, 0, -10, -8, -8, -6);
        Testing.dueSteering("WRONG", still + "start 50 0;", "far 20;wrong 2;", 2, 0, 10, 10, -10);
        Testing.dueSteering("WRONG within MOST", still + "start 500 0;", "far 20;wrong 1;", 2, 0, 35, 0, -35);
    }

    private static void whatSheDoes() {
        Testing.dueSteering("CALM", "turn 0;calm 30;start 0 15;", "", 1, 0 + 15, 11, 8, 6, 5);
        Testing.dueSteering("CALM cuts towards 0", "turn 0;calm 30;start 0 -15;", "", 1, -15, -11, -8, -6, -5);
        Testing.dueSteering("TURN", "turn 3;calm 100;start 10 0;", "far 50;", 0, 10, -5, 1, 1);
        Testing.dueSteering("WIND", "turn 0;calm 0;wind -4;", "", 0, 0, -4, -12, -24);
        Testing.dueSteering("SEAS again and again", "turn 0;calm 100;sea 1 -5 9;", "", 1, 0, 1, -5, 9, 1, -5, 9, 1);
        Testing.dueSteering("TRIM", "turn 0;calm 100;trim 10;start 99 0;", "", 0, 99, 90, 81, 73);
        Testing.dueSteering("TRIM below 0", "turn 0;calm 100;trim -10;start -99 0;", "", 0, -99, -108, -118);
        HelmHand x = Testing.with("turn 99;calm 0;start 999 999;wind 99;", "far 99;wrong 999;");
        due("HEADING within 18000", x.second(0, 0, 0, 30, 0), 18000);
        due("PACE within 9999", x.second(0, 0, 0, 30, 1), 9999);
        x = Testing.with("turn 99;calm 0;start -999 -999;wind -99;", "far 99;wrong 999;");
        due("HEADING within -18000", x.second(0, 0, 0, 30, 0), -18000);
        due("PACE within -9999", x.second(0, 0, 0, 30, 1), -9999);
    }

    private static void slips() {
        HelmHand x = Testing.with("turn 0;calm 0;start 10 10;", "far 99;slips 40;");
        for (int seed : new int[] {0, 1, -7, Integer.MAX_VALUE}) {
            int draw = seed;
            int rudder = 0;
            for (int t = 1; t <= 30; t++) {
                draw = draw * 1103515245 + 12345;
                boolean slips = (draw >>> 16) % 100 < 40;
                rudder = slips ? rudder : -Math.min(35, 99 * 10 * t / 100);
                due("SLIPS " + seed, x.second(0, 0, seed, t, 2), rudder);
            }
        }
        x = Testing.with("start 500 0;", "far 99;slips 100;");
        due("SLIPS ever", x.run(0, 0, 5, 400, 2), 0);
        x = Testing.with("start 500 0;", "far 99;");
        due("no SLIPS, no SEED", x.run(0, 0, 5, 40, 0), x.run(0, 0, 6, 40, 0));
    }

    private static void dueTallies(String call, HelmHand x, int n, long... want) {
        for (int what = 0; what < want.length; what++) {
            due(call + ": what " + what, x.run(0, 0, 0, n, what), want[what]);
        }
    }

    private static void tallies() {
        HelmHand x = Testing.with("turn 1;calm 0;start 100 0;rub 2;", "far 50;");
        dueTallies("p11 four seconds", x, 4, 443, 235, 104, 18, 100, -105, 1, 0, 4, 0);
        dueTallies("p11 seven seconds", x, 7, 621, 399, 111, 18 + 9 + 3, 100, -253, 2, 1, 6, 1);
        dueTallies("p11 one second", x, 1, 135, 65, 35, 4, 65, 65, 0, 0, 1, 0);
        // RUDDER is -10 in the seconds 3 and 9, else 0.
        x = Testing.with("turn 0;calm 100;start 20 0;sea 0 1 -1 0 0 0;", "far 50;dead 20;");
        dueTallies("p11 WAIT between", x, 10, 202, 202, 40, 0, 21, 202, 0, 0, 4, 4);
        dueTallies("p11 WAIT at the end", x, 7, 141, 141, 20, 0, 21, 141, 0, 0, 2, 3);
        dueTallies("p11 WAIT at the start", x, 4, 81, 81, 20, 0, 21, 81, 0, 0, 2, 2);
    }

    private static void peaks() {
        HelmHand x = Testing.with("turn 1;calm 0;start 100 0;", "far 50;");
        int[] want = {65, 100, 8, -1};
        for (int k = 0; k < want.length; k++) {
            due("p12 PEAK " + k, x.peak(0, 0, 0, 7, k), want[k]);
        }
        due("p12 PEAK -1", x.peak(0, 0, 0, 7, -1), -1);
        x = Testing.with("turn 0;calm 100;sea 10 -10 -10 10 10;", "");
        due("0 has no sign", x.run(0, 0, 0, 5, 6), 2);
        due("0 has no sign", x.run(0, 0, 0, 4, 6), 1);
        due("alike does not GROW", x.run(0, 0, 0, 5, 7), 0);
        due("PEAK 1", x.peak(0, 0, 0, 5, 1), 10);
        due("PEAK of one second", x.peak(0, 0, 0, 1, 0), 10);
        x = Testing.with("turn 0;calm 100;start 10 0;sea -50 20 0 0 60 -60;", "");
        due("START's sign is the first", x.run(0, 0, 0, 2, 6), 1);
        due("none ahead of second 1", x.peak(0, 0, 0, 2, 0), 0);
        due("none ahead of second 1", x.peak(0, 0, 0, 2, 1), 40);
        due("GROWS, the latest is left out", x.run(0, 0, 0, 5, 7), 1);
        x = Testing.with("turn 0;calm 100;start 0 0;sea 1 -3 9 -27;", "");
        due("two PEAKS do not GROW", x.run(0, 0, 0, 2, 7), 0);
        due("three do", x.run(0, 0, 0, 3, 7), 1);
        due("PEAKS", x.peak(0, 0, 0, 4, 3), 20);
        x = Testing.with("turn 0;calm 100;sea 5 -8 8 -99;", "");
        due("the latest one alone is greater", x.run(0, 0, 0, 3, 7), 0);
    }
}
