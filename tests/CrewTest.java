/** Promises 26 to 33, 38 and 39: WATCHES, two HANDS and more, PAPERS, SEEDS. */
final class CrewTest {
    private static final int MISSING = Testing.MISSING;
    private static final String LIVELY = "turn 2;calm 20;lag 1;most 30;gear 9;rub 1;wind 3;start 120 -4;sea 9 -4 0 7 -15;";
    private static final String SIMPLE = "turn 1;calm 100;start 100 0;";
    private static final int N = 40;

    public static void main(String[] args) {
        steers();
        steersBeginAnew();
        change();
        order();
        both();
        apart();
        whose();
        tells();
        slipped();
        reads();
        parted();
        Testing.close("CrewTest");
    }

    private static void due(String call, long got, long want) {
        Testing.due(call, got, want);
    }

    private static HelmHand livelyCrew() {
        return Testing.crew(LIVELY, "far 40;quick 20;", "far 5;been 9;slips 30;", "far 20;quick 50;tired 4;easy;", "far 60;wrong 3;");
    }

    private static void watch(HelmHand x, String text) {
        Testing.tellOver(x, Testing.WATCH, text);
    }

    private static void paper(HelmHand x, String text) {
        Testing.tellOver(x, Testing.PAPER, text);
    }

    private static void steers() {
        HelmHand x = Testing.crew("turn 1;calm 0;start 100 0;rub 2;", "far 50;");
        watch(x, "man 0 3;man 0 2;");
        // As one RUN: nothing is kept from second to second by FAR alone.
        int[] headings = {100, 65, -2, -68, -100, -97};
        for (int t = 0; t < headings.length; t++) {
            due("p26 HEADING " + t, x.steers(0, 0, 0, 1000 + t), headings[t]);
        }
        int off = 65 + 2 + 68 + 100 + 97;
        int wear = 35 + 3 + 33 + 33 + 1;
        due("p26 COST", x.steers(0, 0, 0, 0), off + 2 * wear);
        due("p26 OFF", x.steers(0, 0, 0, 1), off);
        due("p26 WEAR", x.steers(0, 0, 0, 2), wear);
        due("p26 WIDEST", x.steers(0, 0, 0, 3), 100);
        due("p26 seconds", x.steers(0, 0, 0, 4), 5);
        for (int what : new int[] {-1, 5, 999, 1006, 1400, Integer.MAX_VALUE, Integer.MIN_VALUE}) {
            due("p26 what " + what, x.steers(0, 0, 0, what), MISSING);
        }
        due("p26 no SHIP", x.steers(1, 0, 0, 4), MISSING);
        due("p26 no WATCH", x.steers(0, 1, 0, 4), MISSING);
        due("p26 no WATCH", x.steers(0, -1, 0, 4), MISSING);
        watch(x, "man 0 3;man 1 2;");
        due("p26 MEN's HANDS", x.steers(0, 1, 0, 4), MISSING);
        watch(x, "man 0 200;man 0 150;man 0 51;man 0 9;");
        due("p26 at most 400", x.steers(0, 1, 0, 4), 400);
        due("p26 the last one", x.steers(0, 1, 0, 1400), x.second(0, 0, 0, 400, 0));
        due("p26 beyond", x.steers(0, 1, 0, 1401), MISSING);
        due("p26 COST of 400", x.steers(0, 1, 0, 0), x.run(0, 0, 0, 400, 0));
        watch(x, "man 0 200;man 0 200;man 2 1;");
        due("p26 MEN's HANDS beyond 400", x.steers(0, 1, 0, 4), MISSING);
        watch(x, "");
        due("p26 no MEN", x.steers(0, 1, 0, 4), 0);
        due("p26 no MEN", x.steers(0, 1, 0, 0), 0);
        due("p26 no MEN", x.steers(0, 1, 0, 1000), 100);
        due("p26 no MEN", x.steers(0, 1, 0, 1001), MISSING);
    }

    private static void dueWatch(String call, String ship, String hand, String men, int... headings) {
        HelmHand x = Testing.crew(ship, hand);
        watch(x, men);
        for (int t = 0; t < headings.length; t++) {
            due("p26 " + call + " " + t, x.steers(0, 0, 0, 1000 + t), headings[t]);
        }
    }

    private static void steersBeginAnew() {
        dueWatch("WRONG", SIMPLE, "far 10;wrong 1;", "man 0 2;man 0 2;", 100, 110, 99, 108, 98);
        dueWatch("STARS", SIMPLE + "lag 1;", "far 10;star 2 2;", "man 0 2;man 0 2;", 100, 90, 81, 72, 65);
        dueWatch("TIRED", SIMPLE, "far 10;tired 2;", "man 0 3;man 0 2;", 100, 90, 80, 71, 64, 57);
        dueWatch("SUM", SIMPLE + "start 500 0;", "been 99;", "man 0 2;man 0 1;", 500, 496, 487, 483);
        dueWatch("GOES", "turn 1;calm 100;wind 10;", "quick 50;", "man 0 2;man 0 2;", 0, 10, 15, 25, 30);
        dueWatch("LAG ahead of him", "turn 1;calm 100;lag 2;start 100 0;", "far 10;", "man 0 2;man 0 3;", 100, 90, 80, 70, 61, 53);
        dueWatch("seas go on", "turn 0;calm 100;sea 1 2 3;", "", "man 0 2;man 0 3;", 0, 1, 3, 6, 7, 9);
        dueWatch("RUDDER goes on", SIMPLE + "gear 4;", "far 10;", "man 0 2;man 0 1;", 100, 96, 88, 80);
        HelmHand x = Testing.crew("turn 0;calm 0;start 10 10;", "far 99;slips 40;");
        watch(x, "man 0 9;man 0 21;");
        due("p26 SEED goes on", x.steers(0, 0, 77, 2), x.run(0, 0, 77, 30, 2));
        due("p26 another SEED", x.steers(0, 0, 78, 2), x.run(0, 0, 78, 30, 2));
    }

    /** By a WATCH of the lively crew, each on an object of its own: one is used for 512 calls at most. */
    private static long costOfWatch(String men) {
        HelmHand x = livelyCrew();
        watch(x, men);
        return x.steers(0, 0, 0, 0);
    }

    private static String man(int hand, int seconds) {
        return seconds == 0 ? "" : "man " + hand + " " + seconds + ";";
    }

    private static void change() {
        HelmHand x = livelyCrew();
        for (int one = 0; one < 4; one++) {
            for (int other = 0; other < 4; other++) {
                int best = 0;
                long least = Long.MAX_VALUE;
                for (int k = 0; k <= N; k++) {
                    long now = costOfWatch(man(one, k) + man(other, N - k));
                    best = now < least ? k : best;
                    least = Math.min(least, now);
                }
                due("p27 CHANGE " + one + " " + other, x.change(0, one, other, N), best);
            }
        }
        x = Testing.crew(SIMPLE, "far 10;", "far 20;", "far 10;");
        due("p27 at once", x.change(0, 0, 1, 5), 0);
        due("p27 never", x.change(0, 1, 0, 5), 5);
        due("p27 of several the least", x.change(0, 0, 2, 5), 0);
        due("p27 no HAND", x.change(0, 0, 3, 5), -1);
        due("p27 no HAND", x.change(0, -1, 0, 5), -1);
        due("p27 no SHIP", x.change(1, 0, 1, 5), -1);
        due("p27 n 0", x.change(0, 0, 1, 0), -1);
        due("p27 n 201", x.change(0, 0, 1, 201), -1);
        due("p27 n 200", x.change(0, 0, 1, 200), 0);
    }

    private static void order() {
        HelmHand x = livelyCrew();
        int[][] threes = {{0, 1, 3}, {0, 3, 1}, {1, 0, 3}, {1, 3, 0}, {3, 0, 1}, {3, 1, 0}};
        for (int n = 3; n < 60; n += 4) {
            int[] best = null;
            long least = Long.MAX_VALUE;
            for (int[] row : threes) {
                long now = costOfWatch(man(row[0], n / 3) + man(row[1], n / 3) + man(row[2], n - n / 3 * 2));
                if (now < least) {
                    least = now;
                    best = row;
                }
            }
            for (int k = 0; k < 3; k++) {
                due("p28 n " + n + " k " + k, x.order(0, 11, n, k), best[k]);
            }
        }
        due("p28 one alone", x.order(0, 4, 1, 0), 2);
        due("p28 k 1 of one", x.order(0, 4, 1, 1), -1);
        due("p28 k -1", x.order(0, 15, 9, -1), -1);
        due("p28 k 4", x.order(0, 15, 9, 4), -1);
        int all = 0;
        for (int k = 0; k < 4; k++) {
            all |= 1 << x.order(0, 15, 200, k);
        }
        due("p28 all four", all, 15);
        due("p28 n below", x.order(0, 15, 3, 0), -1);
        due("p28 n as many", x.order(0, 15, 4, 0) == -1 ? 0 : 1, 1);
        due("p28 n 201", x.order(0, 15, 201, 0), -1);
        due("p28 n 0", x.order(0, 1, 0, 0), -1);
        due("p28 none", x.order(0, 0, 9, 0), -1);
        due("p28 no HAND", x.order(0, 17, 9, 0), -1);
        due("p28 no HAND", x.order(0, Integer.MIN_VALUE + 1, 9, 0), -1);
        due("p28 no HAND", x.order(0, -1, 99, 0), -1);
        due("p28 no SHIP", x.order(1, 3, 9, 0), -1);
        x = Testing.crew(SIMPLE, "far 10;", "far 20;", "far 10;");
        // The best goes first, and the rest of n to the last one; of rows alike the first one.
        int[] row = {1, 0, 2};
        for (int k = 0; k < 3; k++) {
            due("p28 the first by rows", x.order(0, 7, 8, k), row[k]);
        }
        due("p28 no HAND", x.order(0, 8, 8, 0), -1);
    }

    private static void both() {
        HelmHand x = Testing.crew(SIMPLE + "rub 1;", "far 10;", "far 15;", "wrong 9;far 10;", "far 99;slips 40;");
        due("p29 WIDEST, cut", x.both(0, 0, 1, 1, true), 100 - 12);
        due("p29 COST", x.both(0, 0, 1, 1, false), 88 + 12);
        due("p29 one against the other", x.both(0, 0, 2, 5, false), 500);
        due("p29 himself twice", x.both(0, 0, 0, 9, false), x.run(0, 0, 0, 9, 0));
        due("p29 no HAND", x.both(0, 0, 4, 1, true), -1);
        due("p29 no HAND", x.both(0, 4, 0, 1, true), -1);
        due("p29 no HAND", x.both(0, -1, 0, 1, true), -1);
        due("p29 no SHIP", x.both(1, 0, 1, 1, true), -1);
        due("p29 n 0", x.both(0, 0, 1, 0, true), -1);
        due("p29 n 201", x.both(0, 0, 1, 201, true), -1);
        due("p29 n 200", x.both(0, 0, 1, 200, true), 88);
        x = Testing.crew("turn 0;calm 100;start 50 0;gear 7;rub 1;", "far 40;slips 50;", "far 60;slips 30;", "far 10;");
        due("p29 the first one draws first", x.both(0, 0, 1, 30, false), 50 * 30 + wearTogether(40, 50, 60, 30));
        due("p29 the other one first", x.both(0, 1, 0, 30, false), 50 * 30 + wearTogether(60, 30, 40, 50));
        due("p29 one without SLIPS", x.both(0, 2, 0, 30, false), 50 * 30 + wearTogether(10, 0, 40, 50));
        HelmHand sum = Testing.crew("turn 0;calm 100;start 500 0;rub 1;", "been 30;", "quick 90;");
        // -1 -3 -4 -6: half of each of -1 -3 -4 -6 and nothing, cut.
        due("p29 each his own SUM", sum.both(0, 0, 1, 4, false), 2000 + 3);
    }

    private static int wearTogether(int far, int slips, int otherFar, int otherSlips) {
        int draw = 0;
        int rudder = 0;
        int wear = 0;
        for (int t = 1; t <= 30; t++) {
            int one = -Math.min(35, far * 50 / 100);
            int other = -Math.min(35, otherFar * 50 / 100);
            if (slips > 0) {
                draw = draw * 1103515245 + 12345;
                one = (draw >>> 16) % 100 < slips ? rudder : one;
            }
            if (otherSlips > 0) {
                draw = draw * 1103515245 + 12345;
                other = (draw >>> 16) % 100 < otherSlips ? rudder : other;
            }
            int change = Math.max(-7, Math.min(7, (one + other) / 2 - rudder));
            rudder += change;
            wear += Math.abs(change);
        }
        return wear;
    }

    private static void apart() {
        HelmHand x = Testing.crew("turn 1;calm 0;start 100 0;", "far 50;", "");
        paper(x, "row 65 -2 -68;row -100;");
        due("p30 APART", x.apart(0, 0, 0, false), 0);
        due("p30 SAME", x.apart(0, 0, 0, true), 4);
        due("p30 APART of another", x.apart(0, 1, 0, false), 35 + 102 + 168 + 200);
        due("p30 SAME of another", x.apart(0, 1, 0, true), 0);
        paper(x, "row 65 -2 -67 -100;");
        due("p30 APART", x.apart(0, 0, 1, false), 1);
        due("p30 SAME, from the first one on", x.apart(0, 0, 1, true), 2);
        due("p30 no SHIP", x.apart(1, 0, 0, false), -1);
        due("p30 no HAND", x.apart(0, 2, 0, false), -1);
        due("p30 no HAND", x.apart(0, -1, 0, false), -1);
        due("p30 no PAPER", x.apart(0, 0, 2, false), -1);
        due("p30 no PAPER", x.apart(0, 0, -1, true), -1);
        paper(x, "row" + " 100".repeat(60) + ";");
        due("p30 sixty", x.apart(0, 1, 1, true), 60);
    }

    private static void whose() {
        HelmHand x = new HelmHand();
        Testing.tell(x, Testing.SHIP, SIMPLE);
        paper(x, "row 80 64;");
        due("p31 no HANDS", x.whose(0, 0), -1);
        Testing.tell(x, Testing.HAND, "far 10;");
        due("p31 one", x.whose(0, 0), 0);
        Testing.tell(x, Testing.HAND, "far 20;");
        Testing.tell(x, Testing.HAND, "far 20;");
        due("p31 of several the least", x.whose(0, 0), 1);
        Testing.tell(x, Testing.HAND, "far 30;");
        paper(x, "row 70;");
        due("p31 the last one", x.whose(0, 1), 3);
        due("p31 no SHIP", x.whose(1, 0), -1);
        due("p31 no PAPER", x.whose(0, 2), -1);
        due("p31 no PAPER", x.whose(0, -1), -1);
    }

    private static void tells() {
        HelmHand x = Testing.crew(SIMPLE, "far 10;", "");
        paper(x, "row 70;");
        due("p32 TURN", x.tells(0, 0, 0), 3);
        paper(x, "row 65;");
        due("p32 of several the least", x.tells(0, 0, 1), 3);
        due("p32 all alike", x.tells(0, 1, 1), 0);
        paper(x, "row -9999;");
        due("p32 99 at most", x.tells(0, 0, 1), 99);
        due("p32 nothing is left behind", x.ship(0, 0), 1);
        due("p32 no SHIP", x.tells(1, 0, 0), -1);
        due("p32 no HAND", x.tells(0, 2, 0), -1);
        due("p32 no HAND", x.tells(0, -1, 0), -1);
        due("p32 no PAPER", x.tells(0, 0, 2), -1);
    }

    private static void slipped() {
        HelmHand x = Testing.crew(LIVELY, "far 40;quick 20;slips 50;", "far 40;");
        for (int seed : new int[] {0, 5, -3, Integer.MAX_VALUE - 4}) {
            long all = 0;
            long least = Long.MAX_VALUE;
            int lucky = 0;
            for (int k = 0; k < 20; k++) {
                long now = x.run(0, 0, seed + k, N, 0);
                all += now;
                lucky = now < least ? seed + k : lucky;
                least = Math.min(least, now);
                due("p33 SLIPPED " + seed + " by " + (k + 1), x.slipped(0, 0, seed, k + 1, N, false), all);
                due("p33 LUCK " + seed + " by " + (k + 1), x.slipped(0, 0, seed, k + 1, N, true), lucky);
            }
        }
        due("p33 LUCK, of several the first", x.slipped(0, 1, 44, 20, N, true), 44);
        due("p33 w 0", x.slipped(0, 0, 0, 0, N, false), MISSING);
        due("p33 w 21", x.slipped(0, 0, 0, 21, N, false), MISSING);
        due("p33 n 0", x.slipped(0, 0, 0, 1, 0, false), MISSING);
        due("p33 n 201", x.slipped(0, 0, 0, 1, 201, false), MISSING);
        due("p33 n 200", x.slipped(0, 0, 7, 1, 200, true), 7);
        due("p33 no SHIP", x.slipped(1, 0, 0, 1, N, false), MISSING);
        due("p33 no HAND", x.slipped(0, 2, 0, 1, N, false), MISSING);
        due("p33 no HAND", x.slipped(0, -1, 0, 1, N, true), MISSING);
    }

    private static void dueReads(String call, HelmHand x, int paper, int a, int b, int... want) {
        for (int what = 0; what < 3; what++) {
            due("p38 " + call + " what " + what, x.reads(0, 0, paper, a, b, what), want[what]);
        }
    }

    private static void reads() {
        HelmHand x = Testing.crew("turn 1;calm 100;start 500 0;wind 9;", "far 13;quick 17;", "");
        StringBuilder row = new StringBuilder("row");
        for (int t = 1; t <= 20; t++) {
            row.append(' ').append(x.second(0, 0, 0, t, 0));
        }
        paper(x, row + ";");
        Testing.put(x, "far 99;quick 99;");
        x.text(Testing.HAND, 0);
        dueReads("what he had", x, 0, 20, 20, 13, 17, 0);
        paper(x, "row 480;");
        // MOST is 35: by FAR 5 RUDDER is -25, and FAR 6 makes 480 less 1.
        dueReads("the least FAR of several", x, 1, 20, 20, 6, 0, 1);
        dueReads("FAR to 4", x, 1, 4, 20, 4, 0, 9);
        for (int wrong : new int[] {-1, 21}) {
            due("p38 a " + wrong, x.reads(0, 0, 0, wrong, 1, 0), -1);
            due("p38 b " + wrong, x.reads(0, 0, 0, 1, wrong, 0), -1);
        }
        due("p38 what 3", x.reads(0, 0, 0, 1, 1, 3), -1);
        due("p38 what -1", x.reads(0, 0, 0, 1, 1, -1), -1);
        due("p38 no SHIP", x.reads(1, 0, 0, 1, 1, 0), -1);
        due("p38 no HAND", x.reads(0, 2, 0, 1, 1, 0), -1);
        due("p38 no HAND", x.reads(0, -1, 0, 1, 1, 0), -1);
        due("p38 no PAPER", x.reads(0, 0, 2, 1, 1, 0), -1);
    }

    private static void parted() {
        for (int k = 0; k <= 20; k++) {
            HelmHand x = livelyCrew();
            watch(x, man(0, k) + man(3, 20 - k));
            StringBuilder row = new StringBuilder("row");
            for (int t = 1; t <= 20; t++) {
                row.append(' ').append(x.steers(0, x.count(3) - 1, 0, 1000 + t));
            }
            paper(x, row + ";");
            due("p39 after " + k, x.parted(0, 0, 3, x.count(2) - 1), k);
        }
        HelmHand x = Testing.crew(SIMPLE, "far 10;", "far 10;");
        paper(x, "row 1 2 3;");
        due("p39 of several the least", x.parted(0, 0, 1, 0), 0);
        due("p39 no SHIP", x.parted(1, 0, 1, 0), -1);
        due("p39 no HAND", x.parted(0, 2, 1, 0), -1);
        due("p39 no HAND", x.parted(0, 0, -1, 0), -1);
        due("p39 no PAPER", x.parted(0, 0, 1, 1), -1);
    }
}
