/** The boundaries of Terms 4 and 5 and of promises 26 to 33, 38, 39, reckoned by hand: at each, within, beyond. */
final class EdgeCrewTest {
    private static final int NONE = Testing.NONE;
    private static final int MISSING = Testing.MISSING;
    private static final int LEAST = Integer.MIN_VALUE;
    private static final int MOST = Integer.MAX_VALUE;

    // Her PACE is what RUDDER, WIND and SEA make of it in that second.
    private static final String AT_ONCE = "turn 1;calm 100;";
    private static final String AT_100 = AT_ONCE + "start 100 0;";

    public static void main(String[] args) {
        promise26FourHundredTogether();
        promise26WhatIsSteered();
        promise26MensHands();
        promise26EachBeginsAnew();
        promise26What();
        promise27Change();
        promise28HowMany();
        promise28TheRest();
        promise28OfSeveral();
        promise29Half();
        promise29BothInTurn();
        promise30Apart();
        promise30Same();
        promise31Whose();
        promise32Tells();
        promise33Slipped();
        promise33SeedsTogether();
        promise38Reads();
        promise39Parted();
        Testing.close("EdgeCrewTest");
    }

    private static void due(String call, long got, long want) {
        Testing.due(call, got, want);
    }

    private static int watch(HelmHand x, String text) {
        return Testing.tellOver(x, Testing.WATCH, text);
    }

    private static int paper(HelmHand x, String text) {
        return Testing.tellOver(x, Testing.PAPER, text);
    }

    private static void promise26FourHundredTogether() {
        HelmHand x = Testing.with("turn 0;calm 0;start 0 1;", "");
        String[] texts = {"", "man 0 1;", "man 0 200;", "man 0 200;man 0 198;", "man 0 200;man 0 199;", "man 0 200;man 0 200;",
            "man 0 200;man 0 200;man 0 1;", "man 0 200;man 0 199;man 0 1;", "man 0 200;man 0 199;man 0 2;",
            "man 0 200;".repeat(8), "man 0 50;".repeat(8), "man 0 50;".repeat(7) + "man 0 49;", "man 0 50;".repeat(7) + "man 0 51;"};
        int[] seconds = {0, 1, 200, 398, 399, 400, 400, 400, 400, 400, 400, 399, 400};
        for (int i = 0; i < texts.length; i++) {
            int w = watch(x, texts[i]);
            int n = seconds[i];
            String call = "p26 '" + texts[i] + "' ";
            due(call + "seconds", x.steers(0, w, 0, 4), n);
            due(call + "COST", x.steers(0, w, 0, 0), n * (n + 1) / 2);
            due(call + "OFF", x.steers(0, w, 0, 1), n * (n + 1) / 2);
            due(call + "WEAR", x.steers(0, w, 0, 2), 0);
            due(call + "WIDEST", x.steers(0, w, 0, 3), n);
            due(call + "the last HEADING", x.steers(0, w, 0, 1000 + n), n);
            due(call + "none behind it", x.steers(0, w, 0, 1001 + n), MISSING);
        }
    }

    private static void promise26WhatIsSteered() {
        // The second HAND brings her 10 nearer each second: so it is seen how long he steers.
        HelmHand x = Testing.crew(AT_100 + "most 10;", "", "far 99;");
        String[] texts = {"man 0 200;man 0 199;man 1 2;", "man 0 200;man 0 198;man 1 9;", "man 0 200;man 0 200;man 1 9;",
            "man 0 200;man 0 199;man 1 1;"};
        int[] last = {90, 80, 100, 90};
        for (int i = 0; i < texts.length; i++) {
            due("p26 at 400 of '" + texts[i] + "'", x.steers(0, watch(x, texts[i]), 0, 1400), last[i]);
        }
        int w = watch(x, "man 0 1;man 1 2;man 0 1;");
        int[] want = {100, 100, 90, 80, 80, MISSING};
        for (int t = 0; t < want.length; t++) {
            due("p26 HEADING " + t, x.steers(0, w, 0, 1000 + t), want[t]);
        }
    }

    private static void promise26MensHands() {
        HelmHand x = Testing.crew(AT_100, "", "far 10;");
        for (String text : new String[] {"man 2 1;", "man 2 1;man 0 1;", "man 0 1;man 2 1;", "man 0 1;man 3 1;man 1 1;",
            "man 0 200;man 0 200;man 2 1;", "man 0 1;".repeat(7) + "man 2 1;"}) {
            int w = watch(x, text);
            for (int what : new int[] {0, 4, 1000}) {
                due("p26 '" + text + "' what " + what, x.steers(0, w, 0, what), MISSING);
            }
        }
        int w = watch(x, "man 1 1;man 0 1;");
        due("p26 MEN's HANDS are there", x.steers(0, w, 0, 4), 2);
        w = watch(x, "man 2 1;");
        due("p26 not yet", x.steers(0, w, 0, 4), MISSING);
        Testing.tell(x, Testing.HAND, "");
        due("p26 there now", x.steers(0, w, 0, 4), 1);
    }

    private static void dueWatch(String call, String ship, String hand, String men, int... headings) {
        HelmHand x = Testing.with(ship, hand);
        int w = watch(x, men);
        for (int t = 0; t < headings.length; t++) {
            due("p26 " + call + " " + t, x.steers(0, w, 0, 1000 + t), headings[t]);
        }
    }

    private static void promise26EachBeginsAnew() {
        dueWatch("t = 1 for WRONG", AT_100 + "most 10;", "far 99;wrong 1;", "man 0 1;man 0 2;man 0 1;", 100, 110, 120, 110, 120);
        dueWatch("t = 1 for STARS", AT_100 + "lag 9;most 10;", "far 10;star 2 2;", "man 0 2;man 0 2;", 100, 90, 81, 71, 64);
        dueWatch("t = 1 for TIRED", AT_100, "far 10;tired 1;", "man 0 2;man 0 2;", 100, 90, 80, 71, 62);
        dueWatch("SUM 0", AT_ONCE + "start 500 0;", "been 99;", "man 0 1;man 0 1;man 0 2;", 500, 496, 492, 488, 479);
        // She GOES 10 each second; he who has just come does not know it.
        dueWatch("GOES 0", AT_ONCE + "wind 10;", "quick 99;", "man 0 1;man 0 1;man 0 2;", 0, 10, 20, 30, 31);
        dueWatch("LAG sees ahead of him", AT_100 + "lag 1;", "far 10;", "man 0 1;man 0 1;man 0 1;", 100, 90, 80, 71);
        dueWatch("seas go on", "turn 0;calm 100;sea 1 2 3;", "", "man 0 1;man 0 3;man 0 3;", 0, 1, 3, 6, 7, 9, 12, 13);
        HelmHand x = Testing.with("turn 0;calm 0;start 10 10;", "far 99;slips 40;");
        for (String men : new String[] {"man 0 30;", "man 0 1;man 0 29;", "man 0 29;man 0 1;", "man 0 15;man 0 15;"}) {
            int w = watch(x, men);
            for (int seed : new int[] {LEAST, -1, 0, 1, MOST}) {
                due("p26 SEED goes on " + men, x.steers(0, w, seed, 2), x.run(0, 0, seed, 30, 2));
            }
        }
    }

    private static void promise26What() {
        HelmHand x = Testing.with(AT_100 + "rub 2;", "far 10;");
        int w = watch(x, "man 0 2;");
        int[] whats = {LEAST, -1, 0, 1, 2, 3, 4, 5, 6, 998, 999, 1000, 1001, 1002, 1003, 1004, 1400, 1401, MOST};
        int[] want = {MISSING, MISSING, 171 + 22, 171, 11, 90, 2, MISSING, MISSING, MISSING, MISSING, 100, 90, 81, MISSING, MISSING,
            MISSING, MISSING, MISSING};
        for (int i = 0; i < whats.length; i++) {
            due("p26 what " + whats[i], x.steers(0, w, 0, whats[i]), want[i]);
        }
    }

    private static void promise27Change() {
        HelmHand x = Testing.crew(AT_100, "far 10;", "far 11;", "far 10;");
        for (int n : new int[] {1, 2, 199, 200}) {
            due("p27 at once of " + n, x.change(0, 0, 1, n), 0);
            due("p27 of several the least of " + n, x.change(0, 0, 2, n), 0);
            due("p27 himself of " + n, x.change(0, 1, 1, n), 0);
        }
        due("p27 never of 1", x.change(0, 1, 0, 1), 1);
        due("p27 never of 2", x.change(0, 1, 0, 2), 2);
        due("p27 never of 5", x.change(0, 1, 0, 5), 5);
        // 30 is 1 after one second of the first HAND; then neither does anything.
        x = Testing.crew(AT_ONCE + "start 30 0;", "far 99;", "", "wrong 9;far 10;", "wrong 1;far 99;");
        due("p27 after 1", x.change(0, 0, 1, 9), 1);
        due("p27 after 1 of 1", x.change(0, 0, 1, 1), 1);
        due("p27 at once", x.change(0, 1, 0, 9), 0);
        // WRONG in his first second alone: of nine seconds that is worth it, the sooner the better; of one it is not.
        due("p27 at the end", x.change(0, 1, 2, 9), 9);
        due("p27 at once, for what comes then", x.change(0, 1, 3, 9), 0);
        due("p27 never, for nothing comes then", x.change(0, 1, 3, 1), 1);
    }

    private static void promise28HowMany() {
        for (int hands = 1; hands <= 15; hands++) {
            HelmHand x = Testing.crew(AT_100, "far 10;", "far 10;", "far 10;", "far 10;");
            int many = Integer.bitCount(hands);
            int k = 0;
            for (int hand = 0; hand < 4; hand++) {
                if ((hands >> hand & 1) == 1) {
                    for (int n : new int[] {many, many + 1, 199, 200}) {
                        due("p28 hands " + hands + " of " + n + ", " + k, x.order(0, hands, n, k), hand);
                    }
                    for (int n : new int[] {LEAST, -1, 0, many - 1, 201, MOST}) {
                        due("p28 hands " + hands + " of " + n, x.order(0, hands, n, k), NONE);
                    }
                    k++;
                }
            }
            for (int wrong : new int[] {LEAST, -1, many, many + 1, MOST}) {
                due("p28 hands " + hands + ", HAND " + wrong, x.order(0, hands, 9, wrong), NONE);
            }
        }
        HelmHand all = Testing.crew(AT_100, "far 10;", "far 10;", "far 10;", "far 10;");
        for (int hands : new int[] {LEAST, LEAST + 1, -1, 0, 16, 17, 31, MOST}) {
            due("p28 hands " + hands, all.order(0, hands, 200, 0), NONE);
        }
        // As many as there are, and no more.
        for (int has = 1; has <= 3; has++) {
            String[] told = new String[has];
            java.util.Arrays.fill(told, "");
            HelmHand y = Testing.crew(AT_100, told);
            due("p28 all of " + has, y.order(0, (1 << has) - 1, 9, has - 1), has - 1);
            due("p28 the last of " + has, y.order(0, 1 << has - 1, 9, 0), has - 1);
            due("p28 behind the last of " + has, y.order(0, 1 << has, 9, 0), NONE);
            due("p28 one too many of " + has, y.order(0, (1 << has + 1) - 1, 9, 0), NONE);
        }
    }

    private static void dueOrder(HelmHand x, int hands, int n, int... want) {
        for (int k = 0; k < want.length; k++) {
            due("p28 hands " + hands + " of " + n + ", " + k, x.order(0, hands, n, k), want[k]);
        }
    }

    private static void promise28TheRest() {
        // Of 2, one each: 97 88 or, HAND 1 first, 90 88.
        dueOrder(Testing.crew(AT_100, "far 3;", "far 10;"), 3, 2, 1, 0);
        // Of 3, one, and two for the last one: 40 5 1 or, HAND 1 first, 40 40 40. (Two for the first one: 40 40 5 or 40 5 5.)
        dueOrder(Testing.crew(AT_ONCE + "sea 40 0 0;", "", "far 99;"), 3, 3, 0, 1);
        // And the rest is steered: 40 5 or 40 40 without it, but 40 5 -59 or 40 40 -20 with it.
        dueOrder(Testing.crew(AT_ONCE + "sea 40 0 -60;", "", "far 99;"), 3, 3, 1, 0);
        // Of 4, two each: 40 40 5 1 or, HAND 1 first, 40 5 5 5.
        dueOrder(Testing.crew(AT_ONCE + "sea 40 0 0 0;", "", "far 99;"), 3, 4, 1, 0);
        // Of 5, two, and three for the last one: 40 40 5 1 1 or, HAND 1 first, 40 5 5 5 5.
        dueOrder(Testing.crew(AT_ONCE + "sea 40 0 0 0 0;", "", "far 99;"), 3, 5, 1, 0);
    }

    private static void promise28OfSeveral() {
        HelmHand x = Testing.crew("turn 0;start 9 0;", "far 1;", "far 2;", "far 3;", "far 4;");
        dueOrder(x, 15, 4, 0, 1, 2, 3);
        dueOrder(x, 15, 7, 0, 1, 2, 3);
        dueOrder(x, 10, 2, 1, 3);
        dueOrder(x, 8, 1, 3);
        // The strongest first, the weakest last, whichever number they have.
        x = Testing.crew(AT_100, "", "far 5;", "far 10;", "far 20;");
        dueOrder(x, 15, 4, 3, 2, 1, 0);
        dueOrder(x, 14, 3, 3, 2, 1);
        dueOrder(x, 13, 3, 3, 2, 0);
        dueOrder(x, 11, 3, 3, 1, 0);
        dueOrder(x, 7, 3, 2, 1, 0);
        x = Testing.crew(AT_100, "far 20;", "far 10;", "far 5;", "");
        dueOrder(x, 15, 4, 0, 1, 2, 3);
        // Two of three are alike: of the rows alike the first one.
        x = Testing.crew(AT_100, "far 10;", "far 20;", "far 10;");
        dueOrder(x, 7, 3, 1, 0, 2);
        dueOrder(x, 5, 2, 0, 2);
        dueOrder(x, 6, 2, 1, 2);
    }

    private static void promise29Half() {
        // They want 10 and so many: half of it, cut towards 0.
        int[][] rows = {{14, 12}, {15, 12}, {16, 13}, {0, 5}, {1, 5}, {2, 6}, {10, 10}};
        for (int[] row : rows) {
            HelmHand x = Testing.crew(AT_100, "far 10;", "far " + row[0] + ";");
            due("p29 10 and " + row[0], x.both(0, 0, 1, 1, true), 100 - row[1]);
            due("p29 " + row[0] + " and 10", x.both(0, 1, 0, 1, false), 100 - row[1]);
            HelmHand y = Testing.crew(AT_ONCE + "start -100 0;", "far 10;", "far " + row[0] + ";");
            due("p29 -10 and -" + row[0], y.both(0, 0, 1, 1, true), 100 - row[1]);
        }
        // One against the other: -10 and 9 is nothing, -10 and 8 is -1.
        HelmHand x = Testing.crew(AT_100, "far 10;", "far 11;wrong 9;", "far 9;wrong 9;", "far 8;wrong 9;");
        due("p29 -10 and 11", x.both(0, 0, 1, 1, true), 100);
        due("p29 -10 and 9", x.both(0, 0, 2, 1, true), 100);
        due("p29 -10 and 8", x.both(0, 0, 3, 1, true), 99);
        // Each wants MOST at most; the wheel goes by GEAR at most.
        x = Testing.crew(AT_100 + "most 20;", "far 99;", "far 10;");
        due("p29 MOST", x.both(0, 0, 1, 1, true), 85);
        x = Testing.crew(AT_100 + "gear 14;", "far 20;", "far 10;");
        due("p29 GEAR 14", x.both(0, 0, 1, 1, true), 86);
        x = Testing.crew(AT_100 + "gear 15;", "far 20;", "far 10;");
        due("p29 GEAR 15", x.both(0, 0, 1, 1, true), 85);
        x = Testing.crew("turn 0;calm 0;start 0 1;", "far 9;", "");
        due("p29 COST of 200", x.both(0, 0, 1, 200, false), 20100);
        due("p29 WIDEST of 200", x.both(0, 0, 1, 200, true), 200);
        due("p29 COST of 201", x.both(0, 0, 1, 201, false), NONE);
    }

    private static void promise29BothInTurn() {
        // SEED 0: the first number is for the first one, the second for the second one, the third for the first one.
        int draw = 0;
        int[] drawn = new int[40];
        for (int i = 0; i < drawn.length; i++) {
            draw = draw * 1103515245 + 12345;
            drawn[i] = (draw >>> 16) % 100;
        }
        for (int slips = 1; slips <= 100; slips += 3) {
            HelmHand x = Testing.crew("turn 0;calm 100;start 100 0;rub 1;", "far 10;slips " + slips + ";", "far 30;slips 50;", "far 30;");
            int rudder = 0;
            int wear = 0;
            int once = 0;
            int wearOnce = 0;
            for (int t = 0; t < 20; t++) {
                int left = drawn[2 * t] < slips ? rudder : -10;
                int right = drawn[2 * t + 1] < 50 ? rudder : -30;
                int next = (left + right) / 2;
                wear += Math.abs(next - rudder);
                rudder = next;
                int alone = ((drawn[t] < slips ? once : -10) - 30) / 2;
                wearOnce += Math.abs(alone - once);
                once = alone;
            }
            due("p29 both SLIP by " + slips, x.both(0, 0, 1, 20, false), 2000 + wear);
            due("p29 one SLIPS by " + slips, x.both(0, 0, 2, 20, false), 2000 + wearOnce);
            due("p29 one SLIPS by " + slips + ", the other way", x.both(0, 2, 0, 20, false), 2000 + wearOnce);
        }
    }

    private static void promise30Apart() {
        HelmHand x = Testing.crew("turn 0;calm 100;start 50 0;sea 1 -2;", "");
        // HEADINGS 51 49 50 48 49 47.
        String[] rows = {"row 51;", "row 52;", "row 50;", "row 51 49 50 48 49 47;", "row 51 49 50 48 49 46;", "row 0;",
            "row -9999;", "row 9999 9999;", "row 50 50 50 50;"};
        int[] apart = {0, 1, 1, 0, 1, 51, 10050, 9948 + 9950, 1 + 1 + 0 + 2};
        for (int i = 0; i < rows.length; i++) {
            due("p30 APART of '" + rows[i] + "'", x.apart(0, 0, paper(x, rows[i]), false), apart[i]);
        }
        // Of a shorter row, where a longer one was, and a longer RUN: nothing of them counts.
        x.run(0, 0, 0, 400, 0);
        int p = paper(x, "row" + " 7".repeat(60) + ";");
        x.apart(0, 0, p, false);
        due("p30 APART, shorter now", x.apart(0, 0, paper(x, "row 51 49;"), false), 0);
        due("p30 no PAPER", Testing.crew("turn 0;", "").apart(0, 0, 0, false), NONE);
        HelmHand y = Testing.crew("turn 0;start 999 999;calm 0;", "");
        long all = 0;
        for (int t = 1; t <= 60; t++) {
            all += Math.min(18000, 999 + 999 * t) + 9999;
        }
        due("p30 APART of sixty", y.apart(0, 0, paper(y, "row" + " -9999".repeat(60) + ";"), false), all);
    }

    private static void promise30Same() {
        HelmHand x = Testing.crew("turn 0;start 50 0;", "");
        String[] rows = {"row 50;", "row 51;", "row 49 50 50;", "row 50 49 50;", "row 50 50 49;", "row 50 50 50;", "row -50 50;"};
        int[] same = {1, 0, 0, 1, 2, 3, 0};
        for (int i = 0; i < rows.length; i++) {
            due("p30 SAME of '" + rows[i] + "'", x.apart(0, 0, paper(x, rows[i]), true), same[i]);
        }
        for (int count : new int[] {59, 60, 3}) {
            due("p30 SAME of " + count, x.apart(0, 0, paper(x, "row" + " 50".repeat(count) + ";"), true), count);
        }
        due("p30 SAME but the last one", x.apart(0, 0, paper(x, "row" + " 50".repeat(59) + " 51;"), true), 59);
        // START is none of them: HEADINGS 51 49 50 48 behind it.
        HelmHand y = Testing.crew("turn 0;calm 100;start 50 0;sea 1 -2;", "");
        due("p30 SAME, moving", y.apart(0, 0, paper(y, "row 51 49 50 48;"), true), 4);
        due("p30 SAME, moving", y.apart(0, 0, paper(y, "row 51 49 50 49;"), true), 3);
        due("p30 SAME, from START", y.apart(0, 0, paper(y, "row 50 51 49 50;"), true), 0);
        // Nothing of the row that was there counts.
        paper(x, "row" + " 50".repeat(60) + ";");
        due("p30 SAME, shorter now", x.apart(0, 0, paper(x, "row 50 50;"), true), 2);
    }

    private static void promise31Whose() {
        HelmHand x = Testing.crew(AT_100, "far 10;", "far 20;", "far 20;", "far 30;");
        String[] rows = {"row 90;", "row 100;", "row 86;", "row 85;", "row 84;", "row 80;", "row 76;", "row 75;", "row 74;", "row 70;",
            "row -9999;"};
        // 85 is as far from 90 as from 80, 75 as far from 80 as from 70.
        int[] whose = {0, 0, 0, 0, 1, 1, 1, 1, 3, 3, 3};
        for (int i = 0; i < rows.length; i++) {
            due("p31 WHOSE of '" + rows[i] + "'", x.whose(0, paper(x, rows[i])), whose[i]);
        }
    }

    private static void promise32Tells() {
        HelmHand x = Testing.crew(AT_ONCE + "start 100 0;turn 50;", "far 10;", "");
        // By each TURN she comes 10 nearer.
        String[] rows = {"row 110;", "row 100;", "row 95;", "row 94;", "row 90;", "row -875;", "row -876;", "row -880;", "row -885;",
            "row -886;", "row -890;", "row -900;", "row -9999;"};
        int[] turns = {0, 0, 0, 1, 1, 97, 98, 98, 98, 99, 99, 99, 99};
        for (int i = 0; i < rows.length; i++) {
            due("p32 TELLS of '" + rows[i] + "'", x.tells(0, 0, paper(x, rows[i])), turns[i]);
        }
        due("p32 of several the least", x.tells(0, 1, paper(x, "row 5;")), 0);
    }

    private static void promise33Slipped() {
        HelmHand x = Testing.with("turn 0;start 20 0;rub 1;", "far 50;slips 50;");
        for (int seed : new int[] {LEAST, -1, 0, MOST}) {
            long all = 0;
            for (int w = 1; w <= 20; w++) {
                int draw = (seed + w - 1) * 1103515245 + 12345;
                all += 20 + ((draw >>> 16) % 100 < 50 ? 0 : 10);
                due("p33 SLIPPED by " + w, x.slipped(0, 0, seed, w, 1, false), all);
            }
            for (int w : new int[] {LEAST, -1, 0, 21, MOST}) {
                due("p33 SLIPPED by " + w, x.slipped(0, 0, seed, w, 1, false), MISSING);
                due("p33 LUCK by " + w, x.slipped(0, 0, seed, w, 1, true), MISSING);
            }
        }
    }

    private static void promise33SeedsTogether() {
        // One second: who SLIPS has no WEAR. So LUCK is the first SEED whose number is below 5, else SEED itself.
        int seen = 0;
        for (int seed = -60; seed <= 60; seed += 4) {
            HelmHand x = Testing.with("turn 0;start 20 0;rub 1;", "far 50;slips 5;");
            for (int w = 1; w <= 20; w++) {
                int luck = seed;
                for (int k = w - 1; k >= 0; k--) {
                    luck = (((seed + k) * 1103515245 + 12345) >>> 16) % 100 < 5 ? seed + k : luck;
                }
                seen |= luck == seed ? 1 : luck == seed + w - 1 ? 2 : 4;
                due("p33 LUCK of " + seed + " by " + w, x.slipped(0, 0, seed, w, 1, true), luck);
            }
        }
        due("p33 the first, the last, one between were seen", seen, 7);
        // Behind the greatest SEED comes the least one, as numbers of 32 bits do.
        HelmHand y = Testing.with("turn 0;calm 0;start 10 10;rub 1;", "far 99;slips 60;");
        long first = y.run(0, 0, MOST, 30, 0);
        long second = y.run(0, 0, LEAST, 30, 0);
        due("p33 from the greatest SEED", y.slipped(0, 0, MOST, 2, 30, false), first + second);
        due("p33 LUCK from the greatest SEED", y.slipped(0, 0, MOST, 2, 30, true), second < first ? LEAST : MOST);
        due("p33 LUCK of one", y.slipped(0, 0, MOST, 1, 30, true), MOST);
    }

    private static void dueReads(HelmHand x, int paper, int a, int b, int far, int quick, int apart) {
        String call = "p38 to " + a + ", " + b;
        due(call + ": FAR", x.reads(0, 0, paper, a, b, 0), far);
        due(call + ": QUICK", x.reads(0, 0, paper, a, b, 1), quick);
        due(call + ": APART", x.reads(0, 0, paper, a, b, 2), apart);
    }

    private static void promise38Reads() {
        HelmHand x = Testing.with(AT_100, "far 99;quick 99;");
        int p = paper(x, "row 0;");
        for (int a : new int[] {0, 1, 19, 20}) {
            dueReads(x, p, a, 20, a, 0, 100 - a);
        }
        for (int wrong : new int[] {LEAST, -1, 21, MOST}) {
            dueReads(x, p, wrong, 20, NONE, NONE, NONE);
            dueReads(x, p, 20, wrong, NONE, NONE, NONE);
        }
        p = paper(x, "row 100;");
        dueReads(x, p, 20, 20, 0, 0, 0);
        HelmHand y = Testing.with(AT_ONCE + "wind 1;sea 99 -1;", "far 99;");
        p = paper(y, "row 100 0;");
        for (int b : new int[] {0, 1, 19, 20}) {
            dueReads(y, p, 0, b, 0, b, 100 - b);
        }
        // 70 is met by FAR 10 and QUICK 20 and by each FAR more with one QUICK less: the least FAR.
        dueReads(y, paper(y, "row 100 70;"), 20, 20, 10, 20, 0);
        dueReads(y, paper(y, "row 100 70;"), 20, 15, 15, 15, 0);
        // By MOST 1 any does: the least FAR, then the least QUICK.
        y = Testing.with(AT_ONCE + "wind 1;sea 99 -1;most 1;", "");
        dueReads(y, paper(y, "row 100 0;"), 20, 20, 0, 1, 99);
        for (int what : new int[] {LEAST, -1, 3, MOST}) {
            due("p38 what " + what, x.reads(0, 0, 0, 5, 5, what), NONE);
        }
    }

    private static void promise39Parted() {
        HelmHand x = Testing.crew(AT_100, "", "far 10;", "");
        String[] rows = {"row 90 81 73;", "row 100 90 81;", "row 100 100 90;", "row 100 100 100;", "row 100;", "row 90;", "row 95;"};
        int[] after = {0, 1, 2, 3, 1, 0, 0};
        for (int i = 0; i < rows.length; i++) {
            int p = paper(x, rows[i]);
            due("p39 PARTED of '" + rows[i] + "'", x.parted(0, 0, 1, p), after[i]);
            due("p39 of several the least", x.parted(0, 0, 2, p), 0);
            due("p39 himself", x.parted(0, 1, 1, p), 0);
        }
        String sixty = "row" + " 100".repeat(59);
        due("p39 after 59", x.parted(0, 0, 1, paper(x, sixty + " 90;")), 59);
        due("p39 after 60", x.parted(0, 0, 1, paper(x, sixty + " 100;")), 60);
        due("p39 after 58", x.parted(0, 0, 1, paper(x, "row" + " 100".repeat(58) + " 90 81;")), 58);
    }
}
