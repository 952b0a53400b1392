/** The boundaries of Term 2 and of promises 10 to 12: at each one, one step within, one step beyond. */
final class EdgeRunTest {
    private static final int NONE = Testing.NONE;
    private static final int MISSING = Testing.MISSING;
    private static final long NO_LONG = Testing.NO_LONG;

    // By these she goes on as she began, whatever the RUDDER does: behind second t she heads 3 + 10 t.
    private static final String STEADY = "turn 0;calm 0;start 3 10;";
    // By this she stands where the SEAS put her second by second.
    private static final String SEABORNE = "turn 0;calm 100;";

    public static void main(String[] args) {
        term2SecondZero();
        term2Lag();
        term2Tired();
        term2TiredFiveAtMost();
        term2Star();
        term2Point();
        term2Goes();
        term2Sum();
        term2CutTowardsZero();
        term2Most();
        term2Dead();
        term2Easy();
        term2Wrong();
        term2SlipsAtTheirEdge();
        term2SeedOf32Bits();
        term2Gear();
        term2Calm();
        term2Trim();
        term2PaceWithin();
        term2HeadingWithin();
        term2SeasAgainAndAgain();
        term2WithoutAHand();
        term2Lost();
        term2WidestAndDrift();
        term2Times();
        term2Peaks();
        term2Grows();
        term2SpokesAndWait();
        promise10Second();
        promise11Run();
        promise12Peak();
        Testing.close("EdgeRunTest");
    }

    private static void due(String call, long got, long want) {
        Testing.due(call, got, want);
    }

    private static void dueSaw(String call, String ship, String hand, int... want) {
        Testing.dueSteering(call, ship, hand, 3, want);
    }

    private static void dueRudder(String call, String ship, String hand, int... want) {
        Testing.dueSteering(call, ship, hand, 2, want);
    }

    private static void dueHeading(String call, String ship, String hand, int... want) {
        Testing.dueSteering(call, ship, hand, 0, want);
    }

    private static void duePace(String call, String ship, String hand, int... want) {
        Testing.dueSteering(call, ship, hand, 1, want);
    }

    private static int rudder(String ship, String hand, int t) {
        return Testing.with(ship, hand).second(0, 0, 0, t, 2);
    }

    /** What he wants in the first second: she heads so much, MOST and GEAR are as at first. */
    private static void dueWanted(String hand, int heading, int want) {
        due("'" + hand + "' at " + heading, rudder("start " + heading + " 0;", hand, 1), want);
    }

    private static void term2SecondZero() {
        for (int v : new int[] {-999, -998, -1, 0, 1, 998, 999}) {
            HelmHand x = Testing.with("start " + v + " " + -v + ";wind 9;sea 9;trim 9;", "far 99;");
            due("HEADING at second 0", x.second(0, 0, 0, 0, 0), v);
            due("PACE at second 0", x.second(0, 0, 0, 0, 1), -v);
            due("RUDDER at second 0", x.second(0, 0, 0, 0, 2), 0);
            due("what he SAW at second 0", x.second(0, 0, 0, 0, 3), 0);
        }
    }

    // ---- what he SEES

    private static void term2Lag() {
        // Of LAG seconds there are just so many at second LAG + 1, one more at second LAG + 2.
        for (int lag = 0; lag <= 9; lag++) {
            HelmHand x = Testing.with(STEADY + "lag " + lag + ";", "");
            for (int t = 1; t <= 14; t++) {
                due("LAG " + lag + " at " + t, x.second(0, 0, 0, t, 3), t <= lag ? 3 : 3 + 10 * (t - 1 - lag));
            }
        }
        dueSaw("LAG 1", STEADY + "lag 1;", "", 0, 3, 3, 13, 23);
        dueSaw("LAG 8", STEADY + "lag 8;", "", 0, 3, 3, 3, 3, 3, 3, 3, 3, 3, 13);
    }

    private static void term2Tired() {
        dueSaw("TIRED 0", STEADY, "tired 0;", 0, 3, 13, 23, 33);
        dueSaw("TIRED 1", STEADY, "tired 1;", 0, 3, 3, 3, 3, 3, 3, 13);
        // More by 1 from second 3 on, by 2 from second 6 on.
        dueSaw("TIRED 3", STEADY, "tired 3;", 0, 3, 13, 13, 23, 33, 33, 43, 53, 53);
        HelmHand x = Testing.with(STEADY, "tired 399;");
        due("TIRED 399 at 398", x.second(0, 0, 0, 398, 3), 3 + 3970);
        due("TIRED 399 at 399", x.second(0, 0, 0, 399, 3), 3 + 3970);
        due("TIRED 399 at 400", x.second(0, 0, 0, 400, 3), 3 + 3980);
        x = Testing.with(STEADY, "tired 999;");
        due("TIRED 999 at 400", x.second(0, 0, 0, 400, 3), 3 + 3990);
    }

    private static void term2TiredFiveAtMost() {
        // From second 15 on more by 5, and by no more from second 18 on.
        int[] more = {0, 0, 1, 1, 1, 2, 2, 2, 3, 3, 3, 4, 4, 4, 5, 5, 5, 5, 5, 5, 5, 5, 5};
        HelmHand x = Testing.with(STEADY, "tired 3;");
        for (int t = 1; t <= more.length; t++) {
            due("TIRED 3 at " + t, x.second(0, 0, 0, t, 3), 3 + 10 * (t - 1 - more[t - 1]));
        }
        // It is more than LAG: nine and five.
        x = Testing.with(STEADY + "lag 9;", "tired 1;");
        for (int t = 1; t <= 20; t++) {
            due("LAG 9, TIRED 1 at " + t, x.second(0, 0, 0, t, 3), 3 + 10 * Math.max(0, t - 15));
        }
    }

    private static void term2Star() {
        String ship = STEADY + "lag 9;";
        dueSaw("STAR 3 .. 5", ship, "star 3 5;", 0, 3, 3, 23, 33, 43, 3, 3);
        dueSaw("STAR 4 .. 4", ship, "star 4 4;", 0, 3, 3, 3, 33, 3, 3);
        dueSaw("STAR 0 .. 0", ship, "star 0 0;", 0, 3, 3, 3, 3);
        dueSaw("STAR 0 .. 2", ship, "star 0 2;", 0, 3, 13, 3, 3);
        dueSaw("STARS side by side", ship, "star 2 2;star 3 3;", 0, 3, 13, 23, 3);
        dueSaw("STARS, one in the other", ship, "star 2 5;star 3 4;", 0, 3, 13, 23, 33, 43, 3);
        dueSaw("four STARS", ship, "star 2 2;star 4 4;star 6 6;star 8 8;", 0, 3, 13, 3, 33, 3, 53, 3, 73, 3);
        HelmHand x = Testing.with(ship, "star 399 399;");
        due("STAR 399 at 398", x.second(0, 0, 0, 398, 3), 3 + 3880);
        due("STAR 399 at 399", x.second(0, 0, 0, 399, 3), 3 + 3980);
        due("STAR 399 at 400", x.second(0, 0, 0, 400, 3), 3 + 3900);
        x = Testing.with(ship, "star 400 999;");
        due("STAR 400 at 399", x.second(0, 0, 0, 399, 3), 3 + 3890);
        due("STAR 400 at 400", x.second(0, 0, 0, 400, 3), 3 + 3990);
        // Without any LAG: neither the SHIP's nor that of one who is TIRED.
        dueSaw("a STAR of one TIRED", ship, "tired 1;star 7 7;", 0, 3, 3, 3, 3, 3, 3, 63, 3);
    }

    private static void duePoint(int point, int heading, int want) {
        HelmHand x = Testing.with("start " + heading + " 0;", "point " + point + ";");
        due("POINT " + point + " at " + heading, x.second(0, 0, 0, 1, 3), want);
    }

    private static void term2Point() {
        int[][] ten = {{0, 0}, {1, 0}, {9, 0}, {10, 10}, {11, 10}, {19, 10}, {20, 20}, {21, 20}, {999, 990}};
        for (int[] pair : ten) {
            duePoint(10, pair[0], pair[1]);
            duePoint(10, -pair[0], -pair[1]);
        }
        for (int v : new int[] {-999, -1, 0, 1, 999}) {
            duePoint(1, v, v);
        }
        duePoint(2, 1, 0);
        duePoint(2, 2, 2);
        duePoint(2, -3, -2);
        duePoint(999, 998, 0);
        duePoint(999, 999, 999);
        duePoint(999, -998, 0);
        duePoint(999, -999, -999);
        dueSaw("POINT 999 and beyond", "turn 0;calm 0;start 998 1;", "point 999;", 0, 0, 999, 999);
    }

    // ---- what he WANTS

    private static void term2Goes() {
        dueRudder("GOES 0 in the first second", "turn 0;start 999 0;", "quick 99;", 0, 0, 0, 0);
        dueRudder("GOES in the second one", "turn 0;calm 0;start 900 10;", "quick 99;", 0, 0, -9, -9);
        dueRudder("GOES below 0", "turn 0;calm 0;start 900 -10;", "quick 99;", 0, 0, 9, 9);
        // SEES 9 15 21 27 33 as 0 10 20 20 30: GOES 10 10 0 10.
        dueRudder("GOES of what he SAW", "turn 0;calm 0;start 9 6;", "quick 50;point 10;", 0, 0, -5, -5, 0, -5);
        dueRudder("GOES of what he SAW late", "turn 0;calm 0;start 3 10;lag 2;", "quick 50;", 0, 0, 0, 0, -5, -5);
    }

    /** RUDDER is nothing to a SHIP without TURN: her HEADINGS are given, the SUM can be reckoned beside her. */
    private static void dueSums(String ship, int sign, int far, int been) {
        HelmHand x = Testing.with(ship, "far " + far + ";been " + been + ";");
        int sum = 0;
        int rudder = 0;
        for (int t = 1; t <= 60; t++) {
            int sees = x.second(0, 0, 0, t - 1, 0);
            sum += sees;
            if (sum > 9999) {
                sum = 9999;
            }
            if (sum < -9999) {
                sum = -9999;
            }
            int wanted = sees == 0 ? 0 : (-far * sees - been * sum / 100) / 100;
            wanted = Math.max(-35, Math.min(35, wanted));
            rudder += Math.max(-35, Math.min(35, wanted - rudder));
            due("SUM " + sign + " far " + far + " been " + been + " at " + t, x.second(0, 0, 0, t, 2), rudder);
        }
    }

    private static void term2Sum() {
        // She goes far off, comes back and beyond: SUM is at its edge and leaves it again.
        for (int far = 0; far <= 99; far += 9) {
            for (int been = 51; been <= 99; been += 3) {
                dueSums("turn 0;calm 0;start 900 900;wind -60;", 1, far, been);
                dueSums("turn 0;calm 0;start -900 -900;wind 60;", -1, far, been);
            }
        }
        // She comes by 50 each second; behind 19 of them she is 49 off, and SUM has been at its edge since the 17th:
        // 49 * 49 - 98 * 50 + 51 * 9999 / 100 is 2600; by a SUM of 9998 it would be 2599.
        due("SUM at 9999", rudder("turn 0;calm 100;start 999 0;wind -50;", "far 49;quick 98;been 51;", 20), -26);
        due("SUM at -9999", rudder("turn 0;calm 100;start -999 0;wind 50;", "far 49;quick 98;been 51;", 20), 26);
        // 999 ten times is 9990: by an eleventh one it would be 10989.
        dueRudder("SUM to its edge", "turn 0;start 999 0;", "been 30;", 0, -2, -5, -8, -11, -14, -17, -20, -23, -26, -29, -29);
        // 909 eleven times is 9999, and 30 parts of 10000 would be one spoke more.
        due("SUM 9999", rudder("turn 0;start 909 0;", "been 30;", 11), -29);
        due("SUM 10000 is none", rudder("turn 0;start 1 999;calm 100;sea 99;", "been 30;", 60), -29);
        due("SUM -9999", rudder("turn 0;start -909 0;", "been 30;", 11), 29);
        due("SUM -10000 is none", rudder("turn 0;start -999 0;", "been 30;", 60), 29);
    }

    private static void term2CutTowardsZero() {
        for (int sign = -1; sign <= 1; sign += 2) {
            dueWanted("far 1;", 99 * sign, 0);
            dueWanted("far 1;", 100 * sign, -sign);
            dueWanted("far 1;", 101 * sign, -sign);
            dueWanted("far 1;", 199 * sign, -sign);
            dueWanted("far 1;", 200 * sign, -2 * sign);
            // BEEN * SUM / 100 is cut for itself: 99 is 0, 198 is 1 more to 99.
            dueWanted("far 1;been 1;", 99 * sign, 0);
            dueWanted("far 1;been 2;", 99 * sign, -sign);
            dueWanted("far 1;been 10;", 90 * sign, 0);
            dueWanted("far 1;been 12;", 90 * sign, -sign);
        }
        // FAR and QUICK are cut together: 60 and 40 are 100, 60 and 39 are not.
        dueRudder("cut together", "turn 0;calm 0;start 20 40;", "far 1;quick 1;", 0, 0, -1, -1);
        dueRudder("cut together", "turn 0;calm 0;start 21 39;", "far 1;quick 1;", 0, 0, 0, -1);
        dueRudder("against one another", "turn 0;calm 0;start 300 -100;", "far 1;quick 1;", 0, -3, -1, 0, 0, 2);
    }

    private static void term2Most() {
        for (int sign = -1; sign <= 1; sign += 2) {
            for (int most : new int[] {1, 2, 34, 35}) {
                for (int wanted = most - 1; wanted <= most + 1; wanted++) {
                    // By FAR 5 he wants a twentieth of where she heads.
                    int heading = wanted * 20 * sign;
                    due("MOST " + most + " wanted " + wanted * sign, rudder("start " + heading + " 0;most " + most + ";", "far 5;", 1),
                        -sign * Math.min(wanted, most));
                }
            }
            due("MOST 1, far beyond", rudder("start " + 999 * sign + " 0;most 1;", "far 99;", 1), -sign);
            due("MOST 35, far beyond", rudder("start " + 999 * sign + " 0;", "far 99;", 1), -35 * sign);
        }
    }

    private static void term2Dead() {
        for (int sign = -1; sign <= 1; sign += 2) {
            for (int dead : new int[] {20, 21, 500, 997, 998}) {
                int wanted = -sign * Math.min(35, 99 * (dead + 1) / 100);
                dueWanted("far 99;dead " + dead + ";", (dead - 1) * sign, 0);
                dueWanted("far 99;dead " + dead + ";", dead * sign, 0);
                dueWanted("far 99;dead " + dead + ";", (dead + 1) * sign, wanted);
            }
            dueWanted("far 99;dead 999;", 999 * sign, 0);
            dueRudder("DEAD 999 and beyond", "turn 0;calm 0;start " + 998 * sign + " " + sign + ";", "far 99;dead 999;",
                0, 0, 0, -35 * sign);
            // DEAD 0: by SEES 0 alone, whatever she GOES; DEAD 1: by 1, too.
            dueRudder("DEAD 0", "turn 0;calm 0;start " + -50 * sign + " " + 50 * sign + ";", "quick 20;", 0, 0, 0, -10 * sign);
            dueRudder("DEAD 0", "turn 0;calm 0;start " + -49 * sign + " " + 50 * sign + ";", "quick 20;", 0, 0, -10 * sign);
            dueRudder("DEAD 1", "turn 0;calm 0;start " + -49 * sign + " " + 50 * sign + ";", "quick 20;dead 1;", 0, 0, 0, -10 * sign);
            dueRudder("DEAD 1", "turn 0;calm 0;start " + -48 * sign + " " + 50 * sign + ";", "quick 20;dead 1;", 0, 0, -10 * sign);
        }
        // By what he SEES, not by where she is: 29 is 20 by POINT 10.
        dueWanted("far 50;dead 20;point 10;", 29, 0);
        dueWanted("far 50;dead 20;point 10;", 30, -15);
    }

    private static void term2Easy() {
        for (int sign = -1; sign <= 1; sign += 2) {
            String at50 = "turn 0;calm 100;start " + 50 * sign + " 0;sea ";
            // GOES one nearer, not at all, one farther off.
            dueRudder("EASY, nearer", at50 + -sign + ";", "far 50;easy;", 0, -25 * sign, 0);
            dueRudder("EASY, still", at50 + "0;", "far 50;easy;", 0, -25 * sign, -25 * sign);
            dueRudder("EASY, farther off", at50 + sign + ";", "far 50;easy;", 0, -25 * sign, -25 * sign);
            dueRudder("not EASY, nearer", at50 + -sign + ";", "far 50;", 0, -25 * sign, -24 * sign);
            // SEES 1, 0, and 1 on the other side, while she GOES there.
            dueRudder("EASY at 1", at50 + -49 * sign + ";", "quick 50;easy;", 0, 0, 0);
            dueRudder("not EASY at 1", at50 + -49 * sign + ";", "quick 50;", 0, 0, 24 * sign);
            dueRudder("EASY at 0", at50 + -50 * sign + ";", "quick 50;easy;", 0, 0, 0);
            dueRudder("EASY at the other side's 1", at50 + -51 * sign + ";", "quick 50;easy;", 0, 0, 25 * sign);
        }
        // EASY in the first second: GOES is 0, so he does not let her come.
        dueRudder("EASY in the first second", "turn 0;calm 0;start 50 -9;", "far 50;easy;", 0, -25, 0, 0);
    }

    private static void term2Wrong() {
        String ship = "turn 0;start 50 0;";
        dueRudder("WRONG 0", ship, "far 20;wrong 0;", 0, -10, -10);
        dueRudder("WRONG 1", ship, "far 20;wrong 1;", 0, 10, -10, -10);
        dueRudder("WRONG 2", ship, "far 20;wrong 2;", 0, 10, 10, -10);
        dueRudder("WRONG 3", ship, "far 20;wrong 3;", 0, 10, 10, 10, -10);
        HelmHand x = Testing.with(ship, "far 20;wrong 399;");
        due("WRONG 399 at 398", x.second(0, 0, 0, 398, 2), 10);
        due("WRONG 399 at 399", x.second(0, 0, 0, 399, 2), 10);
        due("WRONG 399 at 400", x.second(0, 0, 0, 400, 2), -10);
        due("WRONG 999 at 400", Testing.with(ship, "far 20;wrong 999;").second(0, 0, 0, 400, 2), 10);
        // Turned about within MOST, and nothing turned about is nothing.
        dueRudder("WRONG within MOST", ship + "most 9;", "far 20;wrong 1;", 0, 9, -9);
        dueRudder("WRONG in DEAD", ship, "far 20;wrong 1;dead 50;", 0, 0, 0);
    }

    /** The least SEED of 0 and above by which the first number drawn is this one. */
    private static int seedFor(int drawn) {
        int seed = 0;
        while (((seed * 1103515245 + 12345) >>> 16) % 100 != drawn) {
            seed++;
        }
        return seed;
    }

    private static void term2SlipsAtTheirEdge() {
        for (int drawn : new int[] {0, 1, 2, 49, 50, 97, 98, 99}) {
            int seed = seedFor(drawn);
            for (int slips : new int[] {drawn - 1, drawn, drawn + 1}) {
                if (slips >= 0) {
                    HelmHand x = Testing.with("turn 0;start 20 0;", "far 50;slips " + slips + ";");
                    due("SLIPS " + slips + ", drawn " + drawn, x.second(0, 0, seed, 1, 2), drawn < slips ? 0 : -10);
                }
            }
        }
        // By SLIPS 0 none is drawn, by SLIPS 1 one each second; where none of them is 0 he steers alike.
        HelmHand none = Testing.with("turn 0;start 20 0;", "far 50;slips 0;");
        HelmHand all = Testing.with("turn 0;start 20 0;", "far 50;slips 100;");
        for (int seed : new int[] {Integer.MIN_VALUE, -1, 0, 1, seedFor(0), seedFor(99), Integer.MAX_VALUE}) {
            due("SLIPS 0", none.run(0, 0, seed, 40, 2), 10);
            due("SLIPS 100", all.run(0, 0, seed, 40, 2), 0);
        }
        // RUDDER as it is: a slip holds what the hand last gave.
        for (int seed = 0; seed < 50; seed++) {
            HelmHand some = Testing.with("turn 0;start 90 0;gear 3;", "far 20;slips 50;");
            int draw = seed;
            int rudder = 0;
            for (int t = 1; t <= 20; t++) {
                draw = draw * 1103515245 + 12345;
                rudder = (draw >>> 16) % 100 < 50 ? rudder : Math.max(-18, rudder - 3);
                due("SLIPS 50 by " + seed + " at " + t, some.second(0, 0, seed, t, 2), rudder);
            }
        }
    }

    private static void term2SeedOf32Bits() {
        HelmHand x = Testing.with("turn 0;calm 0;start 10 10;", "far 99;slips 60;");
        for (int seed : new int[] {Integer.MIN_VALUE, Integer.MIN_VALUE + 1, -2, -1, 0, 1, 2, Integer.MAX_VALUE - 1, Integer.MAX_VALUE}) {
            long draw = seed & 0xFFFFFFFFL;
            int rudder = 0;
            for (int t = 1; t <= 40; t++) {
                draw = (draw * 1103515245L + 12345L) & 0xFFFFFFFFL;
                rudder = draw / 65536 % 100 < 60 ? rudder : -Math.min(35, 99 * 10 * t / 100);
                due("SEED " + seed + " at " + t, x.second(0, 0, seed, t, 2), rudder);
            }
        }
    }

    // ---- what she does

    private static void term2Gear() {
        for (int sign = -1; sign <= 1; sign += 2) {
            String ship = "turn 0;start " + 20 * sign + " 0;gear ";
            // He wants 10.
            dueRudder("GEAR 9", ship + "9;", "far 50;", 0, -9 * sign, -10 * sign, -10 * sign);
            dueRudder("GEAR 10", ship + "10;", "far 50;", 0, -10 * sign, -10 * sign);
            dueRudder("GEAR 11", ship + "11;", "far 50;", 0, -10 * sign, -10 * sign);
            dueRudder("GEAR 1", ship + "1;", "far 50;", 0, -sign, -2 * sign, -3 * sign);
            dueRudder("GEAR 35", ship + "35;", "far 50;", 0, -10 * sign, -10 * sign);
        }
        // From one side to the other: 20 away, then back.
        String about = "turn 0;calm 100;start 20 0;sea -40 40;gear ";
        dueRudder("GEAR 19", about + "19;", "far 50;", 0, -10, 9, -10, 9);
        dueRudder("GEAR 20", about + "20;", "far 50;", 0, -10, 10, -10, 10);
        dueRudder("GEAR 21", about + "21;", "far 50;", 0, -10, 10, -10, 10);
    }

    private static void term2Calm() {
        String ship = "turn 0;start 0 ";
        for (int sign = -1; sign <= 1; sign += 2) {
            duePace("CALM 0", ship + 100 * sign + ";calm 0;", "", 100 * sign, 100 * sign, 100 * sign);
            duePace("CALM 1", ship + 101 * sign + ";calm 1;", "", 101 * sign, 100 * sign, 99 * sign, 99 * sign);
            duePace("CALM 99", ship + 200 * sign + ";calm 99;", "", 200 * sign, 2 * sign, sign, sign);
            duePace("CALM 100", ship + 200 * sign + ";calm 100;", "", 200 * sign, 0, 0);
            duePace("CALM 50", ship + 3 * sign + ";calm 50;", "", 3 * sign, 2 * sign, sign, sign);
        }
        duePace("CALM at first is 10", ship + "100;", "", 100, 90, 81, 73);
    }

    private static void term2Trim() {
        for (int sign = -1; sign <= 1; sign += 2) {
            duePace("TRIM 1 at 99", SEABORNE + "start " + 99 * sign + " 0;trim 1;", "", 0, 0);
            duePace("TRIM 1 at 100", SEABORNE + "start " + 100 * sign + " 0;trim 1;", "", 0, -sign, 0);
            duePace("TRIM 1 at 101", SEABORNE + "start " + 101 * sign + " 0;trim 1;", "", 0, -sign, -sign, 0);
            duePace("TRIM -1 at 99", SEABORNE + "start " + 99 * sign + " 0;trim -1;", "", 0, 0);
            duePace("TRIM -1 at 100", SEABORNE + "start " + 100 * sign + " 0;trim -1;", "", 0, sign, sign);
            duePace("TRIM 99", SEABORNE + "start " + 200 * sign + " 0;trim 99;", "", 0, -198 * sign, -sign, 0);
            duePace("TRIM -99", SEABORNE + "start " + 200 * sign + " 0;trim -99;", "", 0, 198 * sign, 394 * sign);
        }
        // It is of the HEADING ahead, and cut for itself.
        duePace("TRIM, CALM and all", "turn 1;calm 50;trim 1;wind 3;start 199 5;sea 4;", "far 1;", 5, 3 - 1 + 3 + 4 - 1);
    }

    private static void term2PaceWithin() {
        for (int sign = -1; sign <= 1; sign += 2) {
            String by90 = "turn 0;calm 0;wind " + 90 * sign + ";start 0 ";
            duePaceAt(by90 + 998 * sign + ";", sign, 9908, 9998, 9999);
            duePaceAt(by90 + 999 * sign + ";", sign, 9909, 9999, 9999);
            // 910 and 101 times 90 is 10000.
            HelmHand x = Testing.with(by90 + 910 * sign + ";", "");
            due("PACE 9910", x.second(0, 0, 0, 100, 1), 9910 * sign);
            due("PACE 10000 is none", x.second(0, 0, 0, 101, 1), 9999 * sign);
            due("PACE stays", x.second(0, 0, 0, 400, 1), 9999 * sign);
            // It leaves its edge from there, as soon as the RUDDER has come over.
            HelmHand y = Testing.with("turn 99;calm 0;start " + 500 * sign + " 0;", "far 99;wrong 3;");
            duePaces(y, 3465 * sign, 6930 * sign, 9999 * sign, 9999 * sign, 6534 * sign);
        }
    }

    private static void duePaceAt(String ship, int sign, int at99, int at100, int at101) {
        HelmHand x = Testing.with(ship, "");
        due(ship + " PACE at 99", x.second(0, 0, 0, 99, 1), at99 * sign);
        due(ship + " PACE at 100", x.second(0, 0, 0, 100, 1), at100 * sign);
        due(ship + " PACE at 101", x.second(0, 0, 0, 101, 1), at101 * sign);
    }

    private static void duePaces(HelmHand x, int... want) {
        for (int t = 1; t <= want.length; t++) {
            due("PACE at " + t, x.second(0, 0, 0, t, 1), want[t - 1]);
        }
    }

    private static void term2HeadingWithin() {
        for (int sign = -1; sign <= 1; sign += 2) {
            for (int start = -1; start <= 1; start++) {
                HelmHand x = Testing.with("turn 0;calm 0;start " + start * sign + " " + 900 * sign + ";", "");
                due("HEADING at 19, from " + start, x.second(0, 0, 0, 19, 0), (17100 + start) * sign);
                due("HEADING at 20, from " + start, x.second(0, 0, 0, 20, 0), Math.min(18000, 18000 + start) * sign);
                due("HEADING at 21, from " + start, x.second(0, 0, 0, 21, 0), 18000 * sign);
                due("HEADING at 400, from " + start, x.second(0, 0, 0, 400, 0), 18000 * sign);
                due("PACE goes on", x.second(0, 0, 0, 400, 1), 900 * sign);
                due("he SEES no more", x.second(0, 0, 0, 400, 3), 18000 * sign);
            }
            // From 18000 she comes back by what PACE is then: 900 less 9 each second is 0 after 100 of them.
            HelmHand x = Testing.with("turn 0;calm 0;wind " + -9 * sign + ";start 0 " + 900 * sign + ";", "");
            due("HEADING at the edge", x.second(0, 0, 0, 100, 0), 18000 * sign);
            due("HEADING off the edge", x.second(0, 0, 0, 101, 0), 17991 * sign);
            due("HEADING off the edge", x.second(0, 0, 0, 102, 0), (17991 - 18) * sign);
        }
    }

    private static void term2SeasAgainAndAgain() {
        duePace("one SEA", SEABORNE + "sea 7;", "", 0, 7, 7, 7);
        duePace("two SEAS", SEABORNE + "sea 7 -8;", "", 0, 7, -8, 7, -8);
        String twelve = SEABORNE + "sea 1 2 3 4 5 6 7 8 9 10 11 12;";
        HelmHand x = Testing.with(twelve, "");
        for (int t = 1; t <= 400; t++) {
            due("SEA " + t + " of twelve", x.second(0, 0, 0, t, 1), (t + 11) % 12 + 1);
        }
        x = Testing.with(SEABORNE + "sea 1 2 3 4 5 6 7 8 9 10 11;", "");
        for (int t : new int[] {1, 10, 11, 12, 22, 23}) {
            due("SEA " + t + " of eleven", x.second(0, 0, 0, t, 1), (t + 10) % 11 + 1);
        }
    }

    private static void term2WithoutAHand() {
        HelmHand x = Testing.with("turn 9;calm 0;start 500 10;", "far 99;quick 99;been 99;slips 50;");
        for (int seed : new int[] {0, 5}) {
            for (int t = 0; t <= 400; t += 40) {
                due("NONE: HEADING", x.second(0, NONE, seed, t, 0), 500 + 10 * t);
                due("NONE: PACE", x.second(0, NONE, seed, t, 1), 10);
                due("NONE: RUDDER", x.second(0, NONE, seed, t, 2), 0);
            }
            due("NONE: WEAR", x.run(0, NONE, seed, 400, 2), 0);
            due("NONE: WAIT", x.run(0, NONE, seed, 400, 9), 400);
        }
    }

    // ---- what is told of n seconds

    private static void term2Lost() {
        // Each second is cut for itself: 31 is 961, 32 is 1024, 45 is 2025.
        int[][] pairs = {{31, 0}, {32, 1}, {44, 1}, {45, 2}, {54, 2}, {55, 3}, {999, 998}};
        for (int[] pair : pairs) {
            for (int sign = -1; sign <= 1; sign += 2) {
                HelmHand x = Testing.with("turn 0;start " + pair[0] * sign + " 0;", "");
                due("LOST by " + pair[0], x.run(0, 0, 0, 1, 3), pair[1]);
                due("LOST by twice " + pair[0], x.run(0, 0, 0, 2, 3), 2 * pair[1]);
            }
        }
        HelmHand x = Testing.with("turn 0;calm 0;start 999 999;", "");
        due("LOST at the edge", x.run(0, 0, 0, 400, 3) - x.run(0, 0, 0, 399, 3), 324000);
        due("OFF at the edge", x.run(0, 0, 0, 400, 1) - x.run(0, 0, 0, 399, 1), 18000);
    }

    private static void term2WidestAndDrift() {
        // START is none of the n seconds; the n-th one is.
        HelmHand x = Testing.with(SEABORNE + "start 50 0;sea -20 -20 -20 -20 30;", "");
        int[] headings = {30, 10, -10, -30, 0};
        long off = 0;
        long drift = 0;
        int widest = 0;
        for (int n = 1; n <= 5; n++) {
            off += Math.abs(headings[n - 1]);
            drift += headings[n - 1];
            widest = Math.max(widest, Math.abs(headings[n - 1]));
            due("OFF of " + n, x.run(0, 0, 0, n, 1), off);
            due("WIDEST of " + n, x.run(0, 0, 0, n, 4), widest);
            due("DRIFT of " + n, x.run(0, 0, 0, n, 5), drift);
        }
        x = Testing.with(SEABORNE + "sea 20 1;", "");
        due("WIDEST, the n-th one", x.run(0, 0, 0, 3, 4), 41);
        due("WIDEST, one less", x.run(0, 0, 0, 2, 4), 21);
        x = Testing.with(SEABORNE, "");
        for (int what = 0; what <= 8; what++) {
            due("nothing off, what " + what, x.run(0, 0, 0, 9, what), 0);
        }
        // RUB makes COST of WEAR: RUDDER is -10 in the second one, then 0 again.
        x = Testing.with(SEABORNE + "start 10 0;sea 1 -1;rub 99;", "far 91;dead 10;");
        due("COST with RUB 99", x.run(0, 0, 0, 3, 0), 11 + 10 + 11 + 99 * 20);
        due("COST with RUB 99, one less", x.run(0, 0, 0, 2, 0), 11 + 10 + 99 * 10);
    }

    private static void dueTimes(String start, String seas, int... want) {
        HelmHand x = Testing.with(SEABORNE + "start " + start + " 0;sea " + seas + ";", "");
        for (int n = 1; n <= want.length; n++) {
            due("TIMES from " + start + " by " + seas + " of " + n, x.run(0, 0, 0, n, 6), want[n - 1]);
        }
    }

    private static void term2Times() {
        // To 1, to 0, to -1: only the last one has the other sign.
        dueTimes("2", "-1 -1 -1", 0, 0, 1);
        dueTimes("-2", "1 1 1", 0, 0, 1);
        // Through 0 and back: it has been the same sign all the time.
        dueTimes("1", "-1 1 -1 0 1 -1", 0, 0, 0, 0, 0, 0);
        dueTimes("1", "-1 -1 1 1", 0, 1, 1, 2);
        dueTimes("1", "-1 0 0 -1", 0, 0, 0, 1);
        // START's sign is the first; where START is 0, the first that comes.
        dueTimes("1", "-2 2", 1, 2);
        dueTimes("-1", "2 -2", 1, 2);
        dueTimes("0", "1 -2 2", 0, 1, 2);
        dueTimes("0", "0 -1 2 -2", 0, 0, 1, 2);
        dueTimes("0", "0 0 0", 0, 0, 0);
        dueTimes("5", "0 0", 0, 0);
    }

    private static void duePeaks(String start, String seas, int n, int... want) {
        HelmHand x = Testing.with(SEABORNE + "start " + start + " 0;sea " + seas + ";", "");
        String call = "PEAKS from " + start + " by " + seas + " of " + n;
        due(call + " ahead of the first", x.peak(0, 0, 0, n, -1), NONE);
        for (int k = 0; k < want.length; k++) {
            due(call + ", " + k, x.peak(0, 0, 0, n, k), want[k]);
        }
        due(call + " behind the last", x.peak(0, 0, 0, n, want.length), NONE);
        due(call + " TIMES", x.run(0, 0, 0, n, 6), want.length - 1);
    }

    private static void term2Peaks() {
        // HEADINGS 10 30 20 -5 -9 -2 7.
        String seas = "10 20 -10 -25 -4 7 9";
        duePeaks("0", seas, 1, 10);
        duePeaks("0", seas, 2, 30);
        duePeaks("0", seas, 3, 30);
        duePeaks("0", seas, 4, 30, 5);
        duePeaks("0", seas, 5, 30, 9);
        duePeaks("0", seas, 6, 30, 9);
        duePeaks("0", seas, 7, 30, 9, 7);
        // START is in none of them: 50, then 40.
        duePeaks("50", "-10 -50", 1, 40);
        duePeaks("50", "-10 -50", 2, 40, 10);
        // Ahead of the first second there is none.
        duePeaks("50", "-60", 1, 0, 10);
        duePeaks("-50", "60 -20", 2, 0, 10, 10);
        // A HEADING of 0 belongs to the row that it is in.
        duePeaks("0", "5 -5 -5 5 5", 5, 5, 5, 5);
        duePeaks("0", "5 -5 5", 3, 5);
        duePeaks("0", "0 0", 2, 0);
        duePeaks("5", "-5 0 -1", 3, 0, 1);
    }

    private static void dueGrows(String start, String seas, int n, int want) {
        HelmHand x = Testing.with(SEABORNE + "start " + start + " 0;sea " + seas + ";", "");
        due("GROWS from " + start + " by " + seas + " of " + n, x.run(0, 0, 0, n, 7), want);
    }

    private static void term2Grows() {
        // PEAKS 10, 11, 1: the latest but one is one greater; alike; one less.
        dueGrows("0", "10 -21 12", 3, 1);
        dueGrows("0", "10 -20 11", 3, 0);
        dueGrows("0", "10 -19 10", 3, 0);
        // Two PEAKS are too few, three are enough.
        dueGrows("0", "10 -21 12", 2, 0);
        dueGrows("0", "10 -21 12", 1, 0);
        // Of four, the third one counts: 10 12 11 1 and 10 9 10 1.
        dueGrows("0", "10 -22 23 -12", 4, 0);
        dueGrows("0", "10 -19 19 -11", 4, 1);
        // The latest one does not count, however great it is.
        dueGrows("0", "10 -20 99", 3, 0);
        // Three with one ahead of the first second, which is 0: any other one is greater.
        dueGrows("1", "-2 2", 2, 1);
        dueGrows("1", "-2 1 1", 2, 0);
        dueGrows("1", "-2 1 1", 3, 1);
    }

    private static void dueStill(String seas, int n, int wear, int spokes, int wait) {
        // RUDDER is -10 behind a HEADING of 11, else 0.
        HelmHand x = Testing.with(SEABORNE + "start 10 0;sea " + seas + ";", "far 91;dead 10;");
        due("WEAR by " + seas + " of " + n, x.run(0, 0, 0, n, 2), wear);
        due("SPOKES by " + seas + " of " + n, x.run(0, 0, 0, n, 8), spokes);
        due("WAIT by " + seas + " of " + n, x.run(0, 0, 0, n, 9), wait);
    }

    private static void term2SpokesAndWait() {
        dueStill("0", 1, 0, 0, 1);
        dueStill("0", 400, 0, 0, 400);
        dueStill("1 -1", 1, 0, 0, 1);
        dueStill("1 -1", 2, 10, 1, 1);
        dueStill("1 -1", 3, 20, 2, 1);
        dueStill("1 -1", 400, 3990, 399, 1);
        // RUDDER moves in seconds 2 and 6 alone.
        String seas = "1 0 0 0 -1 0 0 0 0 0 0 0";
        dueStill(seas, 5, 10, 1, 3);
        dueStill(seas, 6, 20, 2, 3);
        dueStill(seas, 8, 20, 2, 3);
        dueStill(seas, 9, 20, 2, 3);
        dueStill(seas, 10, 20, 2, 4);
        HelmHand x = Testing.with("turn 0;start 20 0;", "far 50;");
        due("SPOKES: all but the first one", x.run(0, 0, 0, 400, 8), 1);
        due("WAIT: all but the first one", x.run(0, 0, 0, 400, 9), 399);
        x = Testing.with("turn 0;start 20 0;gear 1;", "far 50;");
        due("SPOKES by GEAR 1", x.run(0, 0, 0, 10, 8), 10);
        due("WAIT by GEAR 1", x.run(0, 0, 0, 10, 9), 0);
        due("WAIT by GEAR 1", x.run(0, 0, 0, 11, 9), 1);
    }

    // ---- the promises

    private static void promise10Second() {
        HelmHand x = Testing.with("turn 0;calm 0;start 7 1;", "far 5;");
        for (int t : new int[] {1, 2, 399, 400}) {
            due("p10 HEADING at " + t, x.second(0, 0, 0, t, 0), 7 + t);
            due("p10 PACE at " + t, x.second(0, 0, 0, t, 1), 1);
            due("p10 RUDDER at " + t, x.second(0, 0, 0, t, 2), -5 * (6 + t) / 100);
            due("p10 what he SAW at " + t, x.second(0, 0, 0, t, 3), 6 + t);
        }
        for (int t : new int[] {Integer.MIN_VALUE, -1, 401, Integer.MAX_VALUE}) {
            for (int what = 0; what <= 3; what++) {
                due("p10 t " + t, x.second(0, 0, 0, t, what), MISSING);
            }
        }
        for (int t : new int[] {0, 1, 400}) {
            for (int what : new int[] {Integer.MIN_VALUE, -1, 4, Integer.MAX_VALUE}) {
                due("p10 what " + what, x.second(0, 0, 0, t, what), MISSING);
            }
        }
        for (int hand : new int[] {Integer.MIN_VALUE, -2, 1, Integer.MAX_VALUE}) {
            due("p10 hand " + hand, x.second(0, hand, 0, 1, 0), MISSING);
        }
        due("p10 hand NONE", x.second(0, NONE, 0, 400, 0), 407);
        due("p10 hand NONE sees nothing", x.second(0, NONE, 0, 400, 3), 0);
    }

    private static void promise11Run() {
        HelmHand x = Testing.with("turn 0;calm 0;start 0 1;", "");
        for (int n : new int[] {1, 2, 399, 400}) {
            long sum = n * (n + 1) / 2;
            due("p11 COST of " + n, x.run(0, 0, 0, n, 0), sum);
            due("p11 OFF of " + n, x.run(0, 0, 0, n, 1), sum);
            due("p11 WIDEST of " + n, x.run(0, 0, 0, n, 4), n);
            due("p11 DRIFT of " + n, x.run(0, 0, 0, n, 5), sum);
            due("p11 WAIT of " + n, x.run(0, 0, 0, n, 9), n);
        }
        for (int n : new int[] {Integer.MIN_VALUE, -1, 0, 401, Integer.MAX_VALUE}) {
            for (int what = 0; what <= 9; what++) {
                due("p11 n " + n, x.run(0, 0, 0, n, what), NO_LONG);
            }
        }
        for (int what : new int[] {Integer.MIN_VALUE, -1, 10, Integer.MAX_VALUE}) {
            due("p11 what " + what, x.run(0, 0, 0, 5, what), NO_LONG);
        }
    }

    private static void promise12Peak() {
        // HEADINGS 1 -1 1 -1: each second has a PEAK of its own, and none is ahead of the first one.
        HelmHand x = Testing.with(SEABORNE + "start -1 0;sea 2 -2;", "");
        for (int n : new int[] {1, 2, 399, 400}) {
            due("p12 PEAK 0 of " + n, x.peak(0, 0, 0, n, 0), 0);
            for (int k : new int[] {1, n - 1, n}) {
                due("p12 PEAK " + k + " of " + n, x.peak(0, 0, 0, n, k), k == 0 ? 0 : 1);
            }
            for (int k : new int[] {Integer.MIN_VALUE, -2, -1, n + 1, n + 2, Integer.MAX_VALUE}) {
                due("p12 PEAK " + k + " of " + n, x.peak(0, 0, 0, n, k), NONE);
            }
        }
        for (int n : new int[] {Integer.MIN_VALUE, -1, 0, 401, Integer.MAX_VALUE}) {
            due("p12 n " + n, x.peak(0, 0, 0, n, 0), NONE);
        }
    }
}
