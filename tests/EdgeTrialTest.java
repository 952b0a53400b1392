/** The boundaries of Terms 3 and 5 and of promises 13 to 25, 34 to 37, reckoned by hand: at each, within, beyond. */
final class EdgeTrialTest {
    private static final int NONE = Testing.NONE;
    private static final int MISSING = Testing.MISSING;
    private static final long NO_LONG = Testing.NO_LONG;
    private static final int LEAST = Integer.MIN_VALUE;
    private static final int MOST = Integer.MAX_VALUE;

    // Her PACE is what RUDDER, WIND and SEA make of it in that second.
    private static final String AT_ONCE = "turn 1;calm 100;";
    // Behind second t she heads 10 t, whatever he does.
    private static final String TENS = "turn 0;calm 0;start 0 10;";
    private static final String STILL = "turn 0;";

    public static void main(String[] args) {
        promise13FarAtItsEdges();
        promise13QuickAtItsEdges();
        promise13OfSeveral();
        promise14Iron();
        promise15LineAtItsEdges();
        promise15LagOfItsOwn();
        promise16Alone();
        promise17Hard();
        promise18Set();
        promise18OfSeveral();
        promise19Worth();
        promise20Night();
        promise21Cloud();
        promise22Coarse();
        promise23Weary();
        promise23Steady();
        promise24Tries();
        promise24Near();
        promise25Learning();
        promise25AtItsEdges();
        promise34LeadAtItsEdges();
        promise34LagOfItsOwn();
        promise35Deadest();
        promise35NarrowAndGeared();
        promise35NoMoreThan35();
        promise36Broach();
        promise36Ahead();
        promise36Half();
        promise37Better();
        allOfAHundredAndAHundredMore();
        Testing.close("EdgeTrialTest");
    }

    private static void due(String call, long got, long want) {
        Testing.due(call, got, want);
    }

    private static void dueFound(HelmHand x, int n, int a, int b, long far, long quick, long cost) {
        String call = "p13 of " + n + " to " + a + ", " + b;
        due(call + ": FAR", x.found(0, 0, n, a, b, 0), far);
        due(call + ": QUICK", x.found(0, 0, n, a, b, 1), quick);
        due(call + ": COST", x.found(0, 0, n, a, b, 2), cost);
    }

    private static void promise13FarAtItsEdges() {
        // By each FAR she comes one nearer.
        HelmHand x = Testing.with(AT_ONCE + "start 100 0;", "far 99;quick 99;");
        for (int a : new int[] {0, 1, 19, 20}) {
            dueFound(x, 1, a, 0, a, 0, 100 - a);
            dueFound(x, 1, a, 20, a, 0, 100 - a);
        }
        for (int a : new int[] {LEAST, -1, 21, MOST}) {
            dueFound(x, 1, a, 20, NONE, NONE, NONE);
        }
        // And where the least COST is at FAR 0, it is that.
        dueFound(Testing.with(AT_ONCE + "start 100 0;rub 2;", "far 99;"), 1, 20, 20, 0, 0, 100);
        dueFound(Testing.with(AT_ONCE + "start 100 0;wind -99;", ""), 1, 20, 0, 1, 0, 0);
    }

    private static void promise13QuickAtItsEdges() {
        // She heads 100 behind the first second; by each QUICK it is one less behind the second one.
        HelmHand x = Testing.with(AT_ONCE + "wind 1;sea 99 -1;", "far 99;quick 99;");
        for (int b : new int[] {0, 1, 19, 20}) {
            dueFound(x, 2, 0, b, 0, b, 200 - b);
        }
        for (int b : new int[] {LEAST, -1, 21, MOST}) {
            dueFound(x, 2, 20, b, NONE, NONE, NONE);
        }
        dueFound(x, 2, 20, 20, 15, 20, 165);
    }

    private static void promise13OfSeveral() {
        // MOST 1: any FAR or QUICK at all does the same.
        HelmHand x = Testing.with(AT_ONCE + "wind 1;sea 99 -1;most 1;", "");
        dueFound(x, 2, 20, 20, 0, 1, 199);
        dueFound(x, 2, 20, 0, 1, 0, 199);
        dueFound(x, 2, 0, 0, 0, 0, 200);
        dueFound(Testing.with(STILL, "far 7;quick 8;"), 9, 20, 20, 0, 0, 0);
        // 21 are left to meet: by FAR 1 and QUICK 20, by FAR 2 and QUICK 19, and so on.
        dueFound(Testing.with(AT_ONCE + "wind 1;sea 99 -80;", ""), 2, 20, 20, 1, 20, 100);
    }

    private static void promise14Iron() {
        // 999 in one second: BEEN 11 is the first by which RUDDER moves, 21 the first by which it moves by two.
        HelmHand x = Testing.with(AT_ONCE + "start 999 0;", "been 99;");
        due("p14 of several the least", x.iron(0, 0, 1, false), 11);
        due("p14 its COST", x.iron(0, 0, 1, true), 998);
        // By 751, then 750, BEEN 20 is the first that meets the second one by three.
        x = Testing.with(AT_ONCE + "start 751 0;", "");
        due("p14 to 20", x.iron(0, 0, 2, false), 20);
        due("p14 to 20, COST", x.iron(0, 0, 2, true), 750 + 747);
        // Of 953 BEEN 21 would take two, BEEN 11 to 20 take one.
        x = Testing.with(AT_ONCE + "start 953 0;", "been 21;");
        due("p14 not 21", x.run(0, 0, 0, 1, 0), 951);
        due("p14 not 21", x.iron(0, 0, 1, false), 11);
        due("p14 not 21, COST", x.iron(0, 0, 1, true), 952);
        due("p14 from 0", Testing.with(AT_ONCE + "start 999 0;wind -99;rub 1;", "").iron(0, 0, 1, false), 0);
        due("p14 all alike", Testing.with(STILL, "been 5;").iron(0, 0, 200, false), 0);
    }

    private static void dueLine(String seas, String hand, int want) {
        due("p15 '" + hand + "' by " + seas, Testing.with(AT_ONCE + "sea " + seas + ";", hand).line(0, 0, 3, 0), want);
    }

    private static void promise15LineAtItsEdges() {
        // PEAKS: 20, then 20 and what RUDDER adds to it, then the last one. By QUICK 1, FAR 99 adds 20, FAR 98 adds 19.
        dueLine("20 -20 99", "quick 1;", 99);
        dueLine("20 -21 99", "quick 1;", 98);
        // By QUICK 4, FAR 0 adds nothing, FAR 1 to 5 add 1, FAR 6 adds 2.
        dueLine("20 -39 99", "quick 4;", 5);
        dueLine("20 -40 99", "quick 4;", 0);
        dueLine("20 -41 99", "quick 4;", NONE);
        // By two PEAKS it does not GROW, whatever they are.
        due("p15 two PEAKS", Testing.with(AT_ONCE + "sea 20 -41 99;", "quick 4;").line(0, 0, 2, 0), 99);
        // What FAR he has is struck.
        dueLine("20 -40 99", "far 50;quick 4;", 0);
    }

    private static void promise15LagOfItsOwn() {
        for (int own : new int[] {0, 1, 9}) {
            HelmHand x = Testing.with(AT_ONCE + "sea 20 -40 99;lag " + own + ";", "quick 4;");
            due("p15 LAG 0", x.line(0, 0, 3, 0), 0);
            due("p15 LAG 1", x.line(0, 0, 3, 1), 99);
            due("p15 LAG 8", x.line(0, 0, 3, 8), 99);
            due("p15 LAG 9", x.line(0, 0, 3, 9), 99);
            for (int lag : new int[] {LEAST, -1, 10, MOST}) {
                due("p15 LAG " + lag, x.line(0, 0, 3, lag), NONE);
            }
        }
    }

    private static void promise16Alone() {
        HelmHand x = Testing.with("turn 9;calm 100;start 100 0;trim -50;", "far 99;");
        int[][] pairs = {{MOST, 0}, {101, 0}, {100, 0}, {99, 1}, {98, 2}, {2, 98}, {1, 99}, {0, NONE}, {-1, NONE}, {LEAST, NONE}};
        for (int[] pair : pairs) {
            due("p16 w " + pair[0], x.alone(0, 1, pair[0]), pair[1]);
        }
        // Without a HAND there is no RUDDER: what she has of TURN is nothing to her.
        due("p16 w 0, nothing off", Testing.with("turn 9;trim 40;", "far 99;").alone(0, 200, 0), 0);
        // The n-th second counts, START does not.
        x = Testing.with("turn 0;calm 0;start -50 50;", "");
        due("p16 one second", x.alone(0, 1, 0), 0);
        due("p16 two seconds", x.alone(0, 2, 49), NONE);
        due("p16 two seconds", x.alone(0, 2, 50), 0);
    }

    private static void promise17Hard() {
        HelmHand x = Testing.with("turn 0;calm 100;sea 3;", "");
        int[][] pairs = {{0, 0}, {1, 0}, {2, 0}, {3, 1}, {4, 1}, {5, 1}, {6, 2}, {23, 7}, {24, 8}, {26, 8}, {27, 9}, {28, 9},
            {30, 9}, {MOST, 9}, {-1, NONE}, {LEAST, NONE}};
        for (int[] pair : pairs) {
            due("p17 w " + pair[0], x.hard(0, 0, 1, pair[0]), pair[1]);
        }
        // By WIND alone she is 5 off.
        x = Testing.with("turn 0;calm 100;wind 5;sea 3;", "");
        due("p17 by none", x.hard(0, 0, 1, 4), NONE);
        due("p17 by 0", x.hard(0, 0, 1, 5), 0);
        due("p17 by 0", x.hard(0, 0, 1, 7), 0);
        due("p17 by 1", x.hard(0, 0, 1, 8), 1);
        // The greatest, though less are too hard for her: WIND is met by the SEAS.
        x = Testing.with("turn 0;calm 100;wind 27;sea -3;", "");
        due("p17 the greatest", x.hard(0, 0, 1, 0), 9);
        due("p17 all SEAS", Testing.with("turn 0;calm 100;sea 1 2 -3;", "").hard(0, 0, 3, 26), 8);
        due("p17 all SEAS", Testing.with("turn 0;calm 100;sea 1 2 -3;", "").hard(0, 0, 3, 27), 9);
        // 99 nine times is 891.
        x = Testing.with("turn 0;calm 100;sea 99;", "");
        due("p17 SEA 99", x.hard(0, 0, 1, 891), 9);
        due("p17 SEA 99", x.hard(0, 0, 1, 890), 8);
    }

    private static void promise18Set() {
        for (int wind : new int[] {-99, -51, -50, -49, -1, 0, 1, 49, 50, 51, 99}) {
            int want = Math.max(-50, Math.min(50, -wind));
            due("p18 WIND " + wind, Testing.with("turn 0;calm 100;wind " + wind + ";", "").set(0, 0, 1), want);
            due("p18 WIND " + wind, Testing.with("turn 0;calm 100;wind " + wind + ";", "").set(0, 0, 200), want);
        }
        // Beyond 99, too: to 99, 100, 148, 149, and no further.
        int[][] pairs = {{99, 0}, {100, 1}, {101, 2}, {148, 49}, {149, 50}, {150, 50}, {999, 50}};
        for (int[] pair : pairs) {
            due("p18 to " + pair[0], Testing.with("turn 0;calm 100;wind 99;start " + -pair[0] + " 0;", "").set(0, 0, 1), pair[1]);
            due("p18 to " + -pair[0], Testing.with("turn 0;calm 100;wind -99;start " + pair[0] + " 0;", "").set(0, 0, 1), -pair[1]);
        }
    }

    private static void promise18OfSeveral() {
        // By what is added, v, DRIFT is 3 + 6 v: as near to 0 by -1 as by 0.
        due("p18 of several the least", Testing.with("turn 0;calm 100;sea 1 0 0;", "").set(0, 0, 3), -1);
        // -3 + 6 v: as near by 0 as by 1.
        due("p18 of several the least", Testing.with("turn 0;calm 100;sea -1 0 0;", "").set(0, 0, 3), 0);
        // 1 + 3 v, -1 + 3 v, 2 + 3 v, -2 + 3 v: one is nearer.
        due("p18 nearest", Testing.with("turn 0;calm 100;sea 1 -1;", "").set(0, 0, 2), 0);
        due("p18 nearest", Testing.with("turn 0;calm 100;sea -1 1;", "").set(0, 0, 2), 0);
        due("p18 nearest", Testing.with("turn 0;calm 100;sea 1 0;", "").set(0, 0, 2), -1);
        due("p18 nearest", Testing.with("turn 0;calm 100;sea -1 0;", "").set(0, 0, 2), 1);
        due("p18 nothing off", Testing.with(STILL, "").set(0, 0, 200), 0);
    }

    private static void promise19Worth() {
        // Behind a LAG of 1 he SEES 0 in second 2, by a STAR 20: it spares 10 in second 2.
        String ship = AT_ONCE + "lag 1;sea 20 0;";
        due("p19 a STAR in its second", Testing.with(ship, "far 50;star 2 2;").worth(0, 0, 2, 0), 10);
        due("p19 a STAR behind it", Testing.with(ship, "far 50;star 3 9;").worth(0, 0, 2, 0), 0);
        due("p19 a STAR ahead of it", Testing.with(ship, "far 50;star 0 1;").worth(0, 0, 2, 0), 0);
        due("p19 without STARS", Testing.with(ship, "far 50;").worth(0, 0, 2, 0), 0);
        due("p19 all four STARS", Testing.with(ship, "far 50;star 0 0;star 0 1;star 1 1;star 2 2;").worth(0, 0, 2, 0), 10);
        // She comes by herself in second 2: he who is EASY leaves out what the other one gives.
        String coming = AT_ONCE + "start 50 0;sea -10;";
        due("p19 EASE of one who is not", Testing.with(coming, "far 10;").worth(0, 0, 2, 1), 3);
        due("p19 EASE of one who is", Testing.with(coming, "far 10;easy;").worth(0, 0, 2, 1), 3);
        due("p19 EASE in one second", Testing.with(coming, "far 10;easy;").worth(0, 0, 1, 1), 0);
        // By QUICK 50 he meets 20 by 10.
        due("p19 MEET", Testing.with(AT_ONCE + "sea 20 0;", "quick 50;").worth(0, 0, 2, 2), 10);
        due("p19 MEET by QUICK 0", Testing.with(AT_ONCE + "wind 1;sea 99 -1;", "quick 20;").worth(0, 0, 2, 2), 20);
        due("p19 MEET of one who does not", Testing.with(AT_ONCE + "sea 20 0;", "far 9;").worth(0, 0, 2, 2), 0);
        due("p19 MEET below 0", Testing.with(AT_ONCE + "sea 20 -20;", "quick 50;").worth(0, 0, 2, 2), -10);
    }

    private static void promise20Night() {
        // Each second that he is WRONG it is twice 10 for this second and each one that comes.
        String ship = AT_ONCE + "start 50 0;most 10;";
        int[][] pairs = {{0, 0}, {1, 60}, {2, 100}, {3, 120}, {4, 120}, {998, 120}, {999, 120}};
        for (int wrong : new int[] {0, 1, 3, 999}) {
            HelmHand x = Testing.with(ship, "far 99;wrong " + wrong + ";");
            for (int[] pair : pairs) {
                due("p20 w " + pair[0], x.night(0, 0, 3, pair[0]), pair[1]);
            }
            for (int w : new int[] {LEAST, -1, 1000, MOST}) {
                due("p20 w " + w, x.night(0, 0, 3, w), NO_LONG);
            }
        }
    }

    private static void promise21Cloud() {
        // WRONG about it, he does least harm where he does not see what she does: 48, but 74 by a STAR in second 2.
        String ship = AT_ONCE + "lag 9;start 10 0;sea 20 0;";
        for (String own : new String[] {"", "star 2 2;", "star 0 9;", "star 0 0;star 1 1;star 2 2;star 0 999;"}) {
            HelmHand x = Testing.with(ship, "far 99;wrong 9;" + own);
            int[][] pairs = {{MOST, 2}, {75, 2}, {74, 2}, {73, 1}, {49, 1}, {48, 1}, {47, NONE}, {0, NONE}, {-1, NONE}, {LEAST, NONE}};
            for (int[] pair : pairs) {
                due("p21 w " + pair[0] + " " + own, x.cloud(0, 0, 2, pair[0]), pair[1]);
            }
        }
        // To second n and no further: what is behind it is not steered.
        HelmHand x = Testing.with(STILL, "");
        for (int n : new int[] {1, 2, 199, 200}) {
            due("p21 n " + n, x.cloud(0, 0, n, 0), n);
        }
        // Right about it, he needs a STAR to second 2: 31 by it, 60 without.
        x = Testing.with(AT_ONCE + "lag 9;sea 30 30;", "far 99;");
        due("p21 by second 2 alone", x.cloud(0, 0, 2, 31), 2);
        due("p21 by all", x.cloud(0, 0, 2, 60), 2);
        due("p21 by none", x.cloud(0, 0, 2, 30), NONE);
    }

    private static void promise22Coarse() {
        // Of 50, POINTS 1, 2, 5, 10, 25 and 50 leave nothing out.
        HelmHand x = Testing.with(AT_ONCE + "start 50 0;", "far 50;point 999;");
        int[][] pairs = {{1, 1}, {2, 2}, {3, 2}, {4, 2}, {5, 5}, {9, 5}, {10, 10}, {11, 10}, {24, 10}, {25, 25}, {26, 25},
            {49, 25}, {50, 50}};
        for (int[] pair : pairs) {
            due("p22 m " + pair[0], x.coarse(0, 0, 1, pair[0]), pair[1]);
        }
        for (int m : new int[] {LEAST, -1, 0, 51, MOST}) {
            due("p22 m " + m, x.coarse(0, 0, 1, m), NONE);
        }
        // Not above that by 1: below it counts, too. WRONG about it, the coarsest does best.
        x = Testing.with(AT_ONCE + "start 49 0;", "far 50;wrong 1;");
        due("p22 below", x.coarse(0, 0, 1, 50), 50);
        due("p22 below", x.coarse(0, 0, 1, 48), 48);
        due("p22 alike", Testing.with(STILL, "").coarse(0, 0, 200, 50), 50);
        // Of 31 each POINT but 1 and 31 leaves something out.
        x = Testing.with(AT_ONCE + "start 31 0;", "far 99;");
        due("p22 1 alone", x.coarse(0, 0, 1, 30), 1);
        due("p22 as by 1", x.coarse(0, 0, 1, 31), 31);
        due("p22 as by 1", x.coarse(0, 0, 1, 32), 31);
    }

    private static void promise23Weary() {
        HelmHand x = Testing.with(TENS, "");
        int[][] pairs = {{0, 1}, {9, 1}, {10, 2}, {11, 2}, {19, 2}, {20, 3}, {39, 4}, {40, 5}, {49, 5}, {50, NONE}, {51, NONE},
            {MOST, NONE}, {-1, NONE}, {LEAST, NONE}};
        for (int[] pair : pairs) {
            due("p23 WEARY by " + pair[0], x.weary(0, 0, 5, pair[0], false), pair[1]);
            due("p23 WEARY by " + pair[0] + ", the other way",
                Testing.with("turn 0;calm 0;start 0 -10;", "").weary(0, 0, 5, pair[0], false), pair[1]);
        }
        due("p23 WEARY, the 200th", x.weary(0, 0, 200, 1999, false), 200);
        due("p23 WEARY, the 201st", x.weary(0, 0, 200, 2000, false), NONE);
        // START is no second of them.
        x = Testing.with("turn 0;calm 0;start 50 -10;", "");
        due("p23 WEARY by 49", x.weary(0, 0, 5, 49, false), NONE);
        due("p23 WEARY by 40", x.weary(0, 0, 5, 40, false), NONE);
        due("p23 WEARY by 39", x.weary(0, 0, 5, 39, false), 1);
    }

    private static void promise23Steady() {
        // She heads 40 30 20 10 0, one way or the other.
        for (int sign = -1; sign <= 1; sign += 2) {
            HelmHand x = Testing.with("turn 0;calm 0;start " + 50 * sign + " " + -10 * sign + ";", "");
            int[][] pairs = {{MOST, 0}, {50, 0}, {41, 0}, {40, 0}, {39, 1}, {30, 1}, {29, 2}, {10, 3}, {9, 4}, {1, 4}, {0, 4},
                {-1, NONE}, {LEAST, NONE}};
            for (int[] pair : pairs) {
                due("p23 STEADY by " + pair[0], x.weary(0, 0, 5, pair[0], true), pair[1]);
            }
            due("p23 STEADY, the n-th one", x.weary(0, 0, 4, 9, true), NONE);
            due("p23 STEADY, the last but one", x.weary(0, 0, 4, 10, true), 3);
            due("p23 STEADY of one second", x.weary(0, 0, 1, 39, true), NONE);
            due("p23 STEADY of one second", x.weary(0, 0, 1, 40, true), 0);
        }
        // Beyond, within, beyond again: the last one counts.
        HelmHand x = Testing.with("turn 0;calm 100;sea 9 -9 9 -9;", "");
        due("p23 STEADY, twice beyond", x.weary(0, 0, 4, 8, true), 3);
        due("p23 WEARY, twice beyond", x.weary(0, 0, 4, 8, false), 1);
        due("p23 STEADY, twice beyond", x.weary(0, 0, 3, 8, true), NONE);
        due("p23 STEADY, twice beyond", x.weary(0, 0, 2, 8, true), 1);
    }

    private static void promise24Tries() {
        due("p24 the least one of all", Testing.with(STILL, "").tries(0, 0, 200, false), 4);
        due("p24 to the least one", Testing.with(AT_ONCE + "start 50 0;", "wrong 1;").tries(0, 0, 1, false), 4);
        // 58 less 99 parts: the more FAR the better, as far as it goes: 48, 56, 60.
        due("p24 to the greatest one", Testing.with(AT_ONCE + "start 58 0;", "").tries(0, 0, 1, false), 60);
        // By WIND -68 FAR 32 meets it all, by -67 FAR 33 would.
        due("p24 32", Testing.with(AT_ONCE + "start 100 0;wind -68;", "").tries(0, 0, 1, false), 32);
        due("p24 32, for 33", Testing.with(AT_ONCE + "start 100 0;wind -67;", "").tries(0, 0, 1, false), 32);
        due("p24 28", Testing.with(AT_ONCE + "start 100 0;wind -72;", "").tries(0, 0, 1, false), 28);
        // 30 is as far from 28 as from 32, 18 as far from 16 as from 20.
        due("p24 of several the least", Testing.with(AT_ONCE + "start 100 0;wind -70;", "").tries(0, 0, 1, false), 28);
        due("p24 of several the least", Testing.with(AT_ONCE + "start 100 0;wind -82;", "").tries(0, 0, 1, false), 16);
        due("p24 20", Testing.with(AT_ONCE + "start 100 0;wind -81;", "").tries(0, 0, 1, false), 20);
        due("p24 24", Testing.with(AT_ONCE + "start 100 0;wind -76;", "").tries(0, 0, 1, false), 24);
    }

    private static void promise24Near() {
        due("p24 NEAR, met", Testing.with(AT_ONCE + "start 100 0;wind -68;", "").tries(0, 0, 1, true), 0);
        due("p24 NEAR, one off", Testing.with(AT_ONCE + "start 100 0;wind -67;", "").tries(0, 0, 1, true), 1);
        due("p24 NEAR, two off", Testing.with(AT_ONCE + "start 100 0;wind -70;", "").tries(0, 0, 1, true), 2);
        // From FAR 0: he is WRONG by 4 of 100 with the least that he tries; by less than FAR 0 he would do better still.
        due("p24 NEAR, FAR 0", Testing.with(AT_ONCE + "start 100 0;", "wrong 1;").tries(0, 0, 1, true), 4);
        due("p24 NEAR, FAR 1", Testing.with(AT_ONCE + "start 100 0;wind -99;", "").tries(0, 0, 1, true), 3);
        // To FAR 63: 27 makes 16 of 60 to 62, 17 of 63 to 66, and 55 makes 33 of 60, 34 of 62 and 63, 35 of 64.
        due("p24 NEAR, FAR 63", Testing.with(AT_ONCE + "start 27 0;", "").tries(0, 0, 1, true), 1);
        due("p24 NEAR, not FAR 64", Testing.with(AT_ONCE + "start 55 0;", "").tries(0, 0, 1, true), 1);
        due("p24 NEAR, all alike", Testing.with(STILL, "").tries(0, 0, 1, true), 0);
    }

    private static void promise25Learning() {
        HelmHand x = Testing.with(AT_ONCE + "start 100 0;", "far 5;");
        for (int days : new int[] {0, 1, 2, 29, 30}) {
            due("p25 days " + days, x.learning(0, 0, 1, days), 5 + days);
        }
        for (int days : new int[] {LEAST, -1, 31, MOST}) {
            due("p25 days " + days, x.learning(0, 0, 1, days), NONE);
        }
        x = Testing.with(AT_ONCE + "start 100 0;", "far 33;wrong 1;");
        for (int days : new int[] {0, 1, 2, 29, 30}) {
            due("p25 less, days " + days, x.learning(0, 0, 1, days), 33 - days);
        }
        // RUDDER 35 is all there is: as it was goes ahead of more, and of less where that is alike, too.
        due("p25 as it was", Testing.with(AT_ONCE + "start 100 0;", "far 36;").learning(0, 0, 1, 30), 36);
        due("p25 as it was", Testing.with(AT_ONCE + "start 100 0;", "far 35;").learning(0, 0, 1, 30), 35);
        due("p25 as it was", Testing.with(AT_ONCE + "start 100 0;", "far 34;").learning(0, 0, 1, 30), 35);
        // Of 50, FAR 32 and 33 make 16, 34 and 35 make 17, 31 makes 15: he goes by one, and only where one is of use.
        int[][] rows = {{32, 32}, {33, 34}, {34, 34}, {35, 36}};
        for (int[] row : rows) {
            x = Testing.with(AT_ONCE + "start 50 0;", "far " + row[0] + ";");
            due("p25 from " + row[0] + ", a day", x.learning(0, 0, 1, 1), row[1]);
            due("p25 from " + row[0] + ", all days", x.learning(0, 0, 1, 30), row[1]);
        }
        int[][] lower = {{33, 33}, {32, 31}, {31, 31}, {30, 29}};
        for (int[] row : lower) {
            x = Testing.with(AT_ONCE + "start 50 0;", "wrong 1;far " + row[0] + ";");
            due("p25 less from " + row[0] + ", a day", x.learning(0, 0, 1, 1), row[1]);
            due("p25 less from " + row[0] + ", all days", x.learning(0, 0, 1, 30), row[1]);
        }
        // COST by FAR 49, 50, 51 is 10, 12, 10: less goes ahead of more.
        due("p25 less", Testing.with("turn 2;calm 100;start -18 0;sea 6;", "far 50;quick 4;").learning(0, 0, 2, 1), 49);
    }

    private static void promise25AtItsEdges() {
        // He is WRONG: by less than FAR 0 he would do better still.
        for (int far = 0; far <= 2; far++) {
            HelmHand x = Testing.with(AT_ONCE + "start 100 0;", "far " + far + ";wrong 1;");
            for (int days = 0; days <= 4; days++) {
                due("p25 from " + far + ", days " + days, x.learning(0, 0, 1, days), Math.max(0, far - days));
            }
        }
        // By QUICK 1, FAR 99 meets 20 by 20, FAR 98 by 19; by FAR 100 it would be no more.
        for (int far = 97; far <= 99; far++) {
            HelmHand x = Testing.with(AT_ONCE + "sea 20 0;", "quick 1;far " + far + ";");
            due("p25 from " + far, x.learning(0, 0, 2, 1), far == 97 ? 97 : 99);
            due("p25 from " + far, x.learning(0, 0, 2, 30), far == 97 ? 97 : 99);
        }
        // 20 by FAR 99 is 19, by FAR 100 it would be 20.
        HelmHand x = Testing.with(AT_ONCE + "start 20 0;", "far 99;");
        due("p25 not beyond 99", x.learning(0, 0, 1, 1), 99);
        due("p25 not beyond 99", x.learning(0, 0, 1, 30), 99);
        due("p25 from 94", Testing.with(AT_ONCE + "start 20 0;", "far 94;").learning(0, 0, 1, 30), 95);
    }

    private static void dueLead(String seas, String hand, int want) {
        due("p34 '" + hand + "' by " + seas, Testing.with(AT_ONCE + "sea " + seas + ";", hand).lead(0, 0, 3, 0), want);
    }

    private static void promise34LeadAtItsEdges() {
        // WRONG about it, he takes off the second PEAK what RUDDER is: by FAR 1, QUICK 99 makes 20, QUICK 94 makes 19.
        dueLead("20 -59 99", "far 1;wrong 9;", 94);
        dueLead("20 -60 99", "far 1;wrong 9;", 99);
        dueLead("20 -61 99", "far 1;wrong 9;", NONE);
        dueLead("20 -40 99", "far 1;wrong 9;", 0);
        dueLead("20 -41 99", "far 1;wrong 9;", 4);
        // By FAR 0, QUICK 95 makes 19, and QUICK 100 alone would make 20.
        dueLead("20 -59 99", "wrong 9;", 95);
        dueLead("20 -60 99", "wrong 9;", NONE);
        due("p34 two PEAKS", Testing.with(AT_ONCE + "sea 20 -61 99;", "far 1;wrong 9;").lead(0, 0, 2, 0), 0);
        // What QUICK he has is struck.
        dueLead("20 -60 99", "far 1;quick 50;wrong 9;", 99);
    }

    private static void promise34LagOfItsOwn() {
        for (int own : new int[] {0, 1, 9}) {
            HelmHand x = Testing.with(AT_ONCE + "sea 20 -60 99;lag " + own + ";", "far 1;wrong 9;");
            due("p34 LAG 0", x.lead(0, 0, 3, 0), 99);
            due("p34 LAG 1", x.lead(0, 0, 3, 1), NONE);
            HelmHand y = Testing.with(AT_ONCE + "sea 20 -40 99;lag " + own + ";", "far 1;wrong 9;");
            for (int lag : new int[] {0, 1, 8, 9}) {
                due("p34 LAG " + lag, y.lead(0, 0, 3, lag), 0);
            }
            for (int lag : new int[] {LEAST, -1, 10, MOST}) {
                due("p34 LAG " + lag, y.lead(0, 0, 3, lag), NONE);
            }
        }
    }

    private static void promise35Deadest() {
        // Within DEAD she stays where she is, else she comes by 35.
        int[][] pairs = {{97, 97, 96}, {98, 98, 97}, {99, 99, 98}, {100, 99, 99}, {101, 99, 99}};
        for (int[] row : pairs) {
            for (String own : new String[] {"", "dead 500;"}) {
                HelmHand x = Testing.with(AT_ONCE + "start " + row[0] + " 0;", "far 50;" + own);
                due("p35 DEADEST at " + row[0], x.bound(0, 0, 1, row[0], 0), 99);
                due("p35 DEADEST at " + row[0] + ", one less", x.bound(0, 0, 1, row[0] - 1, 0), row[2]);
                due("p35 DEADEST at " + row[0] + ", by 35", x.bound(0, 0, 1, row[0] - 35, 0), row[2]);
                due("p35 DEADEST at " + row[0] + ", by 36", x.bound(0, 0, 1, row[0] - 36, 0), NONE);
                due("p35 DEADEST at " + row[0] + ", all", x.bound(0, 0, 1, MOST, 0), 99);
            }
        }
        // In second 2 he SEES 1, or 2, and meets what she GOES: by DEAD 0, or by DEAD 1, and no greater one.
        HelmHand x = Testing.with(AT_ONCE + "start -20 0;sea 21 20;", "quick 99;");
        due("p35 DEADEST 0", x.bound(0, 0, 2, 20, 0), 0);
        due("p35 DEADEST 0", x.bound(0, 0, 2, 21, 0), 99);
        x = Testing.with(AT_ONCE + "start -20 0;sea 22 20;", "quick 99;");
        due("p35 DEADEST 1", x.bound(0, 0, 2, 21, 0), 1);
        due("p35 w 0", Testing.with(STILL, "").bound(0, 0, 200, 0, 0), 99);
        due("p35 w -1", Testing.with(STILL, "").bound(0, 0, 200, -1, 0), NONE);
    }

    private static void promise35NarrowAndGeared() {
        // He wants 49 of 50: she comes by as much as MOST, or GEAR, is.
        HelmHand x = Testing.with(AT_ONCE + "start 50 0;", "far 99;");
        HelmHand narrow = Testing.with(AT_ONCE + "start 50 0;most 7;", "far 99;");
        HelmHand geared = Testing.with(AT_ONCE + "start 50 0;gear 7;", "far 99;");
        int[][] pairs = {{MOST, 1}, {50, 1}, {49, 1}, {48, 2}, {47, 3}, {17, 33}, {16, 34}, {15, 35}, {14, NONE}, {0, NONE},
            {-1, NONE}, {LEAST, NONE}};
        for (int[] pair : pairs) {
            for (int what = 1; what <= 2; what++) {
                due("p35 what " + what + " by " + pair[0], x.bound(0, 0, 1, pair[0], what), pair[1]);
            }
            due("p35 NARROW by " + pair[0] + ", of another MOST", narrow.bound(0, 0, 1, pair[0], 1), pair[1]);
            due("p35 GEARED by " + pair[0] + ", of another GEAR", geared.bound(0, 0, 1, pair[0], 2), pair[1]);
        }
        due("p35 NARROW within GEAR 7", geared.bound(0, 0, 1, 43, 1), 7);
        due("p35 NARROW beyond GEAR 7", geared.bound(0, 0, 1, 42, 1), NONE);
        due("p35 GEARED within MOST 7", narrow.bound(0, 0, 1, 43, 2), 7);
        due("p35 GEARED beyond MOST 7", narrow.bound(0, 0, 1, 42, 2), NONE);
        for (int what : new int[] {LEAST, -1, 3, MOST}) {
            due("p35 what " + what, x.bound(0, 0, 1, 50, what), NONE);
        }
    }

    private static void promise35NoMoreThan35() {
        // She heads 64, then, by all that MOST 35 has, 128; by 36 in second 2 it would be 127.
        HelmHand x = Testing.with(AT_ONCE + "start 99 0;sea 0 99;", "far 99;");
        due("p35 NARROW 35", x.bound(0, 0, 2, 128, 1), 35);
        due("p35 NARROW 36 is none", x.bound(0, 0, 2, 127, 1), NONE);
        // RUDDER goes one way by GEAR, back by GEAR, the other way by GEAR: that is nothing together. From 35 back by
        // 36 it would be 1 more.
        x = Testing.with(AT_ONCE + "start 99 0;wind -30;sea -99 -5 -99;", "far 99;");
        due("p35 GEARED 1", x.bound(0, 0, 3, 194, 2), 1);
        due("p35 GEARED 36 is none", x.bound(0, 0, 3, 193, 2), NONE);
    }

    private static void promise36Broach() {
        for (int sign = -1; sign <= 1; sign += 2) {
            for (int start = -1; start <= 1; start++) {
                // She heads 8999, 9000, 9001 behind second 10.
                HelmHand x = Testing.with("turn 0;calm 0;start " + start * sign + " " + 900 * sign + ";", "");
                due("p36 BROACH from " + start, x.first(0, 0, 20, 0), start < 0 ? 11 : 10);
                due("p36 BROACH of ten, from " + start, x.first(0, 0, 10, 0), start < 0 ? NONE : 10);
                due("p36 BROACH of nine, from " + start, x.first(0, 0, 9, 0), NONE);
            }
        }
        // 8998 is none, either: 899 and 900 ten times less 1.
        HelmHand x = Testing.with("turn 0;calm 0;start -2 900;", "");
        due("p36 BROACH from 8998", x.first(0, 0, 10, 0), NONE);
        // 45 each second: 9000 is behind second 200.
        x = Testing.with("turn 0;calm 0;start 0 45;", "");
        due("p36 BROACH, the 200th", x.first(0, 0, 200, 0), 200);
        due("p36 BROACH, not the 199th", x.first(0, 0, 199, 0), NONE);
        due("p36 never", Testing.with(STILL, "").first(0, 0, 200, 0), NONE);
    }

    private static void promise36Ahead() {
        // COST is 20 10 0 10 20 21 by seconds.
        HelmHand x = Testing.with("turn 0;calm 100;start -30 0;sea 10 10 10 10 10 1;", "");
        due("p36 AHEAD of 1", x.first(0, 0, 1, 1), 1);
        due("p36 AHEAD of 5, of several the least", x.first(0, 0, 5, 1), 1);
        due("p36 AHEAD of 6, the n-th", x.first(0, 0, 6, 1), 6);
        due("p36 AHEAD of nothing", Testing.with(STILL, "").first(0, 0, 200, 1), 1);
        // START is no second of them, RUB counts: RUDDER -10 in second 2, 0 in second 3.
        x = Testing.with("turn 0;calm 100;start 10 0;sea 1 -1;rub 1;", "far 91;dead 10;");
        due("p36 AHEAD with RUB", x.first(0, 0, 2, 1), 2);
        due("p36 AHEAD with RUB", x.first(0, 0, 3, 1), 3);
        x = Testing.with("turn 0;calm 100;start 10 0;sea 1 -1;", "far 91;dead 10;");
        due("p36 AHEAD without RUB", x.first(0, 0, 3, 1), 1);
    }

    private static void promise36Half() {
        // COST by seconds; half of it has come at just a half, not at one less.
        int[][] rows = {{10, 10, 1}, {10, 11, 2}, {11, 10, 1}, {9, 10, 2}, {10, 9, 1}, {10, 0, 1}, {0, 10, 2}, {0, 0, 1}};
        for (int[] row : rows) {
            HelmHand x = Testing.with("turn 0;calm 100;sea " + row[0] + " " + (row[1] - row[0]) + ";", "");
            due("p36 HALF of " + row[0] + " " + row[1], x.first(0, 0, 2, 2), row[2]);
        }
        // 20 20 20 20: half is behind second 2; of five behind second 3.
        HelmHand x = Testing.with("turn 0;start 20 0;", "");
        due("p36 HALF of 1", x.first(0, 0, 1, 2), 1);
        due("p36 HALF of 2", x.first(0, 0, 2, 2), 1);
        due("p36 HALF of 3", x.first(0, 0, 3, 2), 2);
        due("p36 HALF of 4", x.first(0, 0, 4, 2), 2);
        due("p36 HALF of 5", x.first(0, 0, 5, 2), 3);
        due("p36 HALF of 199", x.first(0, 0, 199, 2), 100);
        due("p36 HALF of 200", x.first(0, 0, 200, 2), 100);
        for (int what : new int[] {LEAST, -1, 3, MOST}) {
            due("p36 what " + what, x.first(0, 0, 5, what), NONE);
        }
    }

    private static void promise37Better() {
        // COST 100 less FAR.
        HelmHand x = Testing.crew(AT_ONCE + "start 100 0;", "far 10;", "far 11;", "far 10;dead 9;", "far 9;");
        int[][] rows = {{0, 1, 1}, {1, 0, 0}, {0, 2, 2}, {2, 0, 2}, {0, 3, 0}, {3, 0, 1}, {0, 0, 2}};
        for (int[] row : rows) {
            due("p37 " + row[0] + " and " + row[1], x.better(0, row[0], row[1], 1), row[2]);
        }
    }

    /** Trials go to n 200, RUNS to n 400: what is beyond is another one, what is within is told. */
    private static void allOfAHundredAndAHundredMore() {
        HelmHand x = Testing.with(TENS, "");
        long sum = 10 * 200 * 201 / 2;
        due("p13 COST of 200", x.found(0, 0, 200, 0, 0, 2), sum);
        due("p14 COST of 200", x.iron(0, 0, 200, true), sum);
        due("p13 COST of 201", x.found(0, 0, 201, 0, 0, 2), NONE);
        due("p11 COST of 201", x.run(0, 0, 0, 201, 0), sum + 2010);
        due("p18 DRIFT of 201", x.set(0, 0, 201), MISSING);
        due("p36 AHEAD of 200", x.first(0, 0, 200, 1), 200);
        due("p36 AHEAD of 201", x.first(0, 0, 201, 1), NONE);
    }
}
