import java.util.function.IntPredicate;
import java.util.function.IntToLongFunction;

/**
 * Promises 13 to 25 and 34 to 37: trials. Some are reckoned by hand; the others are held against RUNS of SHIPS and
 * HANDS that are told with what the trial puts in (a later line strikes the earlier one).
 */
final class TrialTest {
    private static final int MISSING = Testing.MISSING;
    private static final long NO_LONG = Testing.NO_LONG;
    private static final String LIVELY = "turn 2;calm 20;lag 1;most 30;gear 9;rub 1;wind 3;start 120 -4;sea 9 -4 0 7 -15;";
    private static final String MATE = "far 40;quick 30;been 3;dead 2;point 2;";
    private static final String STARRED = "star 1 4;star 9 12;";
    private static final int N = 45;

    public static void main(String[] args) {
        found();
        iron();
        lineAndLead();
        alone();
        hard();
        set();
        worth();
        night();
        cloud();
        coarse();
        weary();
        tries();
        learning();
        bound();
        first();
        better();
        wrongCalls();
        Testing.close("TrialTest");
    }

    private static void due(String call, long got, long want) {
        Testing.due(call, got, want);
    }

    private static HelmHand lively() {
        return Testing.with(LIVELY, MATE + STARRED);
    }

    private static long told(String ship, String hand, int n, int what) {
        HelmHand x = new HelmHand();
        Testing.tell(x, Testing.SHIP, ship);
        Testing.tell(x, Testing.HAND, hand);
        return x.run(0, 0, 0, n, what);
    }

    private static long cost(String more) {
        return told(LIVELY, MATE + STARRED + more, N, 0);
    }

    private static int least(int from, int to, IntToLongFunction of) {
        int best = from;
        for (int v = from; v <= to; v++) {
            best = of.applyAsLong(v) < of.applyAsLong(best) ? v : best;
        }
        return best;
    }

    private static int greatest(int from, int to, IntPredicate good) {
        for (int v = to; v >= from; v--) {
            if (good.test(v)) {
                return v;
            }
        }
        return -1;
    }

    private static void dueRule(String call, HelmHand x, int n, int a, int b, long... want) {
        for (int what = 0; what < 3; what++) {
            due("p13 " + call + " what " + what, x.found(0, 0, n, a, b, what), want[what]);
        }
    }

    private static void found() {
        HelmHand x = Testing.with("turn 1;calm 100;start 100 0;", "far 50;quick 50;");
        dueRule("one second", x, 1, 20, 20, 20, 0, 80);
        dueRule("FAR to 7", x, 1, 7, 20, 7, 0, 93);
        dueRule("FAR 0", x, 1, 0, 20, 0, 0, 100);
        x = Testing.with("turn 1;calm 100;start 9 0;", "");
        dueRule("the least FAR of several", x, 1, 20, 20, 12, 0, 8);
        x = Testing.with("turn 1;calm 100;sea 10 0;", "");
        dueRule("QUICK alone", x, 2, 0, 20, 0, 20, 18);
        dueRule("the least QUICK of several", x, 2, 0, 19, 0, 10, 19);
        dueRule("the least FAR, then the least QUICK", x, 2, 6, 6, 4, 6, 19);
        x = lively();
        int best = least(0, 20 * 21 + 20, v -> cost("far " + v / 21 + ";quick " + v % 21 + ";"));
        dueRule("lively", x, N, 20, 20, best / 21, best % 21, cost("far " + best / 21 + ";quick " + best % 21 + ";"));
        due("p13 nothing is left behind", x.run(0, 0, 0, N, 0), cost(""));
        due("p13 a -1", x.found(0, 0, 9, -1, 5, 0), -1);
        due("p13 a 21", x.found(0, 0, 9, 21, 5, 0), -1);
        due("p13 b -1", x.found(0, 0, 9, 5, -1, 0), -1);
        due("p13 b 21", x.found(0, 0, 9, 5, 21, 0), -1);
        due("p13 what 3", x.found(0, 0, 9, 5, 5, 3), -1);
        due("p13 what -1", x.found(0, 0, 9, 5, 5, -1), -1);
    }

    private static void iron() {
        HelmHand x = Testing.with("turn 1;calm 100;start 999 0;", "been 99;");
        due("p14 BEEN", x.iron(0, 0, 1, false), 11);
        due("p14 COST", x.iron(0, 0, 1, true), 998);
        x = Testing.with("turn 1;calm 100;start 999 0;rub 3;", "been 99;");
        due("p14 BEEN, of several", x.iron(0, 0, 1, false), 0);
        due("p14 COST, of several", x.iron(0, 0, 1, true), 999);
        int best = least(0, 20, v -> cost("been " + v + ";"));
        due("p14 BEEN, lively", lively().iron(0, 0, N, false), best);
        due("p14 COST, lively", lively().iron(0, 0, N, true), cost("been " + best + ";"));
    }

    private static void lineAndLead() {
        HelmHand x = Testing.with("turn 0;calm 100;sea 1 -3 9 -27;", "");
        due("p15 by none", x.line(0, 0, 3, 0), -1);
        due("p15 by all", x.line(0, 0, 2, 0), 99);
        due("p34 by none", x.lead(0, 0, 3, 0), -1);
        due("p34 by all", x.lead(0, 0, 2, 0), 0);
        String ship = "turn 1;calm 30;lag 9;start 150 0;";
        x = Testing.with(ship, "far 40;quick 20;");
        int seen = 0;
        for (int lag = 0; lag <= 9; lag++) {
            String lagged = ship + "lag " + lag + ";";
            int far = greatest(0, 99, v -> told(lagged, "quick 20;far " + v + ";", 60, 7) == 0);
            due("p15 LAG " + lag, x.line(0, 0, 60, lag), far);
            int quick = 99 - greatest(0, 99, v -> told(lagged, "far 40;quick " + (99 - v) + ";", 60, 7) == 0);
            due("p34 LAG " + lag, x.lead(0, 0, 60, lag), quick == 100 ? -1 : quick);
            seen |= far > 0 && far < 99 ? 1 : 0;
            seen |= quick > 0 && quick < 99 ? 2 : 0;
        }
        due("p15, p34 lines between the edges were seen", seen, 3);
        for (int lag : new int[] {-1, 10}) {
            due("p15 LAG " + lag, x.line(0, 0, 9, lag), -1);
            due("p34 LAG " + lag, x.lead(0, 0, 9, lag), -1);
        }
    }

    private static void alone() {
        HelmHand x = Testing.with("turn 0;calm 100;start 100 0;trim -50;", "far 50;");
        due("p16 w 80", x.alone(0, 1, 80), 20);
        due("p16 w 79", x.alone(0, 1, 79), 21);
        due("p16 w 100", x.alone(0, 1, 100), 0);
        due("p16 w 1", x.alone(0, 1, 1), 99);
        due("p16 by none", x.alone(0, 1, 0), -1);
        due("p16 w -1", x.alone(0, 1, -1), -1);
        due("p16 w 0", Testing.with("turn 0;", "").alone(0, 9, 0), 0);
        due("p16 n 0", x.alone(0, 0, 80), -1);
        due("p16 n 201", x.alone(0, 201, 100), -1);
        due("p16 n 200", x.alone(0, 200, 100), 0);
        due("p16 no SHIP", x.alone(1, 1, 80), -1);
        due("p16 no SHIP", x.alone(-1, 1, 80), -1);
        HelmHand bare = new HelmHand();
        Testing.tell(bare, Testing.SHIP, "turn 9;calm 100;start 100 0;");
        due("p16 no HAND is needed", bare.alone(0, 1, 80), 20);
    }

    private static void hard() {
        HelmHand x = Testing.with("turn 0;calm 100;sea 3 -3;", "");
        due("p17 w 10", x.hard(0, 0, 1, 10), 3);
        due("p17 w 2", x.hard(0, 0, 1, 2), 0);
        due("p17 w 27", x.hard(0, 0, 2, 27), 9);
        due("p17 w 26", x.hard(0, 0, 2, 26), 8);
        x = Testing.with("turn 0;calm 100;wind 5;sea -2;", "");
        due("p17 w 3, not by less", x.hard(0, 0, 1, 3), 4);
        due("p17 w 0", x.hard(0, 0, 1, 0), -1);
        due("p17 w -1", x.hard(0, 0, 1, -1), -1);
        due("p17 nothing is left behind", x.run(0, 0, 0, 1, 5), 3);
        x = Testing.with("turn 0;calm 100;wind 5;sea 2;", "");
        due("p17 by none", x.hard(0, 0, 1, 4), -1);
        due("p17 w 5", x.hard(0, 0, 1, 5), 0);
        due("p17 w 0", Testing.with("turn 0;", "").hard(0, 0, 9, 0), 9);
    }

    private static void set() {
        due("p18 WIND 7", Testing.with("turn 0;calm 100;wind 7;", "").set(0, 0, 3), -7);
        due("p18 of several the least", Testing.with("turn 0;calm 100;sea 1 0 0;", "").set(0, 0, 3), -1);
        due("p18 as near as may be", Testing.with("turn 0;calm 100;wind 99;", "").set(0, 0, 1), -50);
        due("p18 as near as may be", Testing.with("turn 0;calm 100;wind -99;", "").set(0, 0, 1), 50);
        due("p18 beyond 99", Testing.with("turn 0;calm 100;start -130 0;wind 99;", "").set(0, 0, 1), 31);
        due("p18 beyond -99", Testing.with("turn 0;calm 100;start 130 0;wind -99;", "").set(0, 0, 1), -31);
        HelmHand x = lively();
        int best = -50 + least(0, 100, v -> Math.abs(told(LIVELY + "wind " + (3 + v - 50) + ";", MATE + STARRED, N, 5)));
        due("p18 lively", x.set(0, 0, N), best);
        due("p18 nothing is left behind", x.ship(0, 6), 3);
        due("p18 nothing is left behind", x.run(0, 0, 0, N, 0), cost(""));
    }

    private static void worth() {
        HelmHand x = lively();
        due("p19 a STAR", x.worth(0, 0, N, 0), told(LIVELY, MATE, N, 0) - cost(""));
        due("p19 a STAR is worth something", x.worth(0, 0, N, 0) == 0 ? 0 : 1, 1);
        due("p19 EASE", x.worth(0, 0, N, 1), cost("easy;") - cost(""));
        due("p19 EASE counts", x.worth(0, 0, N, 1) == 0 ? 0 : 1, 1);
        due("p19 MEET", x.worth(0, 0, N, 2), cost("quick 0;") - cost(""));
        due("p19 MEET counts", x.worth(0, 0, N, 2) == 0 ? 0 : 1, 1);
        due("p19 what 3", x.worth(0, 0, N, 3), NO_LONG);
        due("p19 what -1", x.worth(0, 0, N, -1), NO_LONG);
        due("p19 nothing is left behind", x.run(0, 0, 0, N, 0), cost(""));
        x = Testing.with(LIVELY, MATE + "easy;");
        due("p19 EASE of one who is", x.worth(0, 0, N, 1), told(LIVELY, MATE + "easy;", N, 0) - told(LIVELY, MATE, N, 0));
        due("p19 no STARS", x.worth(0, 0, N, 0), 0);
    }

    private static void night() {
        HelmHand x = Testing.with(LIVELY, MATE + STARRED + "wrong 7;");
        for (int w : new int[] {0, 1, 3, 7, 40, 999}) {
            due("p20 w " + w, x.night(0, 0, N, w), cost("wrong " + w + ";") - cost("wrong 0;"));
        }
        due("p20 w -1", x.night(0, 0, N, -1), NO_LONG);
        due("p20 w 1000", x.night(0, 0, N, 1000), NO_LONG);
    }

    private static void cloud() {
        String ship = "turn 1;calm 20;lag 3;start 100 -60;";
        HelmHand x = Testing.with(ship, "far 45;star 7 9;star 1 2;star 3 4;star 5 6;");
        int some = 0;
        for (int w = 0; w <= 400; w += 5) {
            int wide = w;
            int till = greatest(0, 30, s -> told(ship, "far 45;" + (s == 0 ? "" : "star 1 " + s + ";"), 30, 4) <= wide);
            due("p21 w " + w, x.cloud(0, 0, 30, w), till);
            some |= till == -1 ? 1 : till == 30 ? 2 : 4;
        }
        due("p21 none, all and some were seen", some & 3, 3);
        due("p21 w -1", x.cloud(0, 0, 30, -1), -1);
        due("p21 w 0", Testing.with("turn 0;", "").cloud(0, 0, 9, 0), 9);
        // The whole of the way is the same with a STAR and without: she is too wide by none or by all.
        x = Testing.with("turn 0;calm 100;start 30 0;", "star 2 3;");
        due("p21 by all", x.cloud(0, 0, 4, 30), 4);
        due("p21 by none", x.cloud(0, 0, 4, 29), -1);
        // Only where he does not see what she does now, she stays within: he is WRONG about it.
        x = Testing.with("turn 1;calm 100;lag 1;start 10 0;sea 20 0;", "far 99;wrong 9;");
        int till = greatest(0, 2, s -> told("turn 1;calm 100;lag 1;start 10 0;sea 20 0;",
            "far 99;wrong 9;" + (s == 0 ? "" : "star 1 " + s + ";"), 2, 4) <= 48);
        due("p21 from the first", x.cloud(0, 0, 2, 48), till);
        due("p21 from the first", till, 1);
    }

    private static void coarse() {
        HelmHand x = lively();
        for (int m = 1; m <= 50; m += 7) {
            due("p22 m " + m, x.coarse(0, 0, N, m), greatest(1, m, p -> cost("point " + p + ";") <= cost("point 1;")));
        }
        due("p22 m 0", x.coarse(0, 0, N, 0), -1);
        due("p22 m 51", x.coarse(0, 0, N, 51), -1);
        x = Testing.with("turn 1;calm 100;start 10 0;", "far 50;point 9;");
        due("p22 m 50", x.coarse(0, 0, 1, 50), 10);
        due("p22 m 10", x.coarse(0, 0, 1, 10), 10);
        due("p22 m 9", x.coarse(0, 0, 1, 9), 5);
    }

    private static void weary() {
        HelmHand x = Testing.with("turn 0;calm 0;start 0 10;", "");
        due("p23 w 25", x.weary(0, 0, 5, 25, false), 3);
        due("p23 w 30", x.weary(0, 0, 5, 30, false), 4);
        due("p23 never", x.weary(0, 0, 5, 50, false), -1);
        due("p23 w 0", x.weary(0, 0, 5, 0, false), 1);
        due("p23 w -1", x.weary(0, 0, 5, -1, false), -1);
        due("p23 w -1, STEADY", x.weary(0, 0, 5, -1, true), -1);
        due("p23 STEADY, not at the end", x.weary(0, 0, 5, 49, true), -1);
        due("p23 STEADY, without", x.weary(0, 0, 5, 50, true), 0);
        x = Testing.with("turn 0;calm 0;start -50 10;", "");
        due("p23 either way", x.weary(0, 0, 5, 25, false), 1);
        due("p23 second 0 is none", x.weary(0, 0, 5, 40, false), -1);
        due("p23 STEADY w 15", x.weary(0, 0, 5, 15, true), 3);
        due("p23 STEADY w 40", x.weary(0, 0, 5, 40, true), 0);
        due("p23 STEADY w 0", x.weary(0, 0, 5, 0, true), 4);
        due("p23 STEADY, the n-th one", x.weary(0, 0, 4, 0, true), -1);
    }

    private static int tried(IntToLongFunction of, int middle, int step) {
        return middle - step + step * least(0, 2, v -> of.applyAsLong(middle - step + step * v));
    }

    private static void tries() {
        for (String ship : new String[] {LIVELY, LIVELY + "turn 9;", LIVELY + "lag 4;", "turn 0;", LIVELY + "turn 1;rub 40;"}) {
            HelmHand x = Testing.with(ship, MATE);
            IntToLongFunction of = far -> told(ship, MATE + "far " + far + ";", N, 0);
            int far = tried(of, tried(of, tried(of, 32, 16), 8), 4);
            due("p24 FAR, " + ship, x.tries(0, 0, N, false), far);
            due("p24 NEAR, " + ship, x.tries(0, 0, N, true), of.applyAsLong(far) - of.applyAsLong(least(0, 63, of)));
        }
        due("p24 of several the least", Testing.with("turn 0;", "").tries(0, 0, 1, false), 16 - 8 - 4);
        due("p24 to the greatest", Testing.with("turn 1;calm 100;most 35;start 58 0;", "").tries(0, 0, 1, false), 60);
        due("p24 NEAR", Testing.with("turn 1;calm 100;start 70 0;", "").tries(0, 0, 1, true), 0);
        due("p24 NEAR, rubbing", Testing.with("turn 1;calm 100;start 100 0;rub 9;", "").tries(0, 0, 1, true), 32);
    }

    private static void learning() {
        HelmHand x = Testing.with("turn 1;calm 100;start 100 0;", "far 10;");
        due("p25 days 0", x.learning(0, 0, 1, 0), 10);
        due("p25 days 1", x.learning(0, 0, 1, 1), 11);
        due("p25 days 30", x.learning(0, 0, 1, 30), 35);
        due("p25 days -1", x.learning(0, 0, 1, -1), -1);
        due("p25 days 31", x.learning(0, 0, 1, 31), -1);
        due("p25 nothing is left behind", x.hand(0, 0), 10);
        x = Testing.with("turn 0;", "far 10;");
        due("p25 alike: as it was", x.learning(0, 0, 1, 9), 10);
        x = Testing.with("turn 1;calm 100;start 100 0;rub 2;", "far 5;");
        due("p25 less", x.learning(0, 0, 1, 3), 2);
        due("p25 not below 0", x.learning(0, 0, 1, 30), 0);
        x = Testing.with("turn 1;calm 100;start 35 0;", "far 97;");
        due("p25 not beyond 99", x.learning(0, 0, 1, 30), 98);
        x = Testing.with("turn 1;calm 100;start 35 0;most 35;sea 1;", "far 98;");
        due("p25 to 99 at most", x.learning(0, 0, 1, 30), 98);
        x = Testing.with("turn 1;calm 100;start 100 0;most 35;lag 1;", "far 98;wrong 999;");
        due("p25 far beyond", x.learning(0, 0, 1, 30), 98);
        // COST by FAR 49, 50, 51: 6 + 4, 6 + 6, 4 + 6.
        x = Testing.with("turn 2;calm 100;start -18 0;sea 6;", "far 50;quick 4;");
        due("p25 less goes ahead of more", x.learning(0, 0, 2, 1), 49);
        String ship = "turn 1;calm 100;start 100 0;";
        x = Testing.with(ship + "sea 0 -15 0 9;lag 1;", MATE);
        int far = 40;
        for (int day = 1; day <= 12; day++) {
            int now = far;
            int[] choice = {now, now - 1, now + 1};
            far = choice[least(0, 2, v -> told(ship + "sea 0 -15 0 9;lag 1;", MATE + "far " + choice[v] + ";", 20, 0))];
            due("p25 day " + day, x.learning(0, 0, 20, day), far);
        }
    }

    private static void bound() {
        HelmHand x = lively();
        int seen = 0;
        for (int w = 60; w <= 300; w += 4) {
            int wide = w;
            due("p35 DEADEST by " + w, x.bound(0, 0, N, w, 0), greatest(0, 99, v -> told(LIVELY, MATE + STARRED + "dead " + v + ";", N, 4) <= wide));
            int narrow = 36 - greatest(1, 35, v -> told(LIVELY + "most " + (36 - v) + ";", MATE + STARRED, N, 4) <= wide);
            due("p35 NARROW by " + w, x.bound(0, 0, N, w, 1), narrow > 35 ? -1 : narrow);
            int geared = 36 - greatest(1, 35, v -> told(LIVELY + "gear " + (36 - v) + ";", MATE + STARRED, N, 4) <= wide);
            due("p35 GEARED by " + w, x.bound(0, 0, N, w, 2), geared > 35 ? -1 : geared);
            seen |= (narrow > 1 && narrow <= 35 ? 1 : 0) | (geared > 1 && geared <= 35 ? 2 : 0) | (narrow > 35 ? 4 : 0);
        }
        due("p35 some of each were seen", seen, 7);
        x = Testing.with("turn 1;calm 100;start 50 0;", "far 50;dead 70;");
        due("p35 DEADEST", x.bound(0, 0, 1, 49, 0), 49);
        due("p35 DEADEST", x.bound(0, 0, 1, 50, 0), 99);
        x = Testing.with("turn 1;calm 100;start 50 0;", "far 50;");
        due("p35 NARROW", x.bound(0, 0, 1, 41, 1), 9);
        due("p35 GEARED", x.bound(0, 0, 1, 41, 2), 9);
        due("p35 NARROW, all", x.bound(0, 0, 1, 50, 1), 1);
        due("p35 none", x.bound(0, 0, 1, 14, 1), -1);
        x = Testing.with("turn 1;calm 100;start 50 0;", "far 99;");
        due("p35 NARROW, the greatest", x.bound(0, 0, 1, 15, 1), 35);
        due("p35 GEARED, the greatest", x.bound(0, 0, 1, 15, 2), 35);
        due("p35 w 0", Testing.with("turn 0;", "").bound(0, 0, 1, 0, 0), 99);
        // He SEES 1 in second 2, GOES 21: only by DEAD 0 he meets the second sea.
        x = Testing.with("turn 1;calm 100;start -20 0;sea 21 20;", "quick 99;");
        due("p35 DEADEST, the least", x.bound(0, 0, 2, 20, 0), 0);
        due("p35 DEADEST, none", x.bound(0, 0, 2, 0, 0), -1);
        due("p35 w -1", x.bound(0, 0, 1, -1, 0), -1);
        due("p35 what 3", x.bound(0, 0, 1, 50, 3), -1);
        due("p35 what -1", x.bound(0, 0, 1, 50, -1), -1);
    }

    private static void first() {
        HelmHand x = Testing.with("turn 0;calm 0;start 0 900;", "");
        due("p36 BROACH", x.first(0, 0, 20, 0), 10);
        due("p36 BROACH, never", x.first(0, 0, 9, 0), -1);
        due("p36 BROACH, either way", Testing.with("turn 0;calm 0;start -1 -900;", "").first(0, 0, 20, 0), 10);
        x = Testing.with("turn 0;calm 0;start -30 10;", "");
        due("p36 AHEAD, of several the least", x.first(0, 0, 5, 1), 1);
        due("p36 AHEAD", x.first(0, 0, 6, 1), 6);
        // Costs 20 10 0 10 20 30.
        due("p36 HALF of 60", x.first(0, 0, 5, 2), 2);
        due("p36 HALF of 40", x.first(0, 0, 4, 2), 1);
        due("p36 HALF of 90", x.first(0, 0, 6, 2), 5);
        due("p36 HALF of nothing", Testing.with("turn 0;", "").first(0, 0, 5, 2), 1);
        // Costs 1 2: of 3 the half is not there with 1.
        due("p36 HALF of 3", Testing.with("turn 0;calm 0;start 0 1;", "").first(0, 0, 2, 2), 2);
        x = Testing.with("turn 1;calm 100;start 50 0;rub 9;", "far 20;dead 36;");
        // RUDDER -10, -8, 0: RUB puts 90, 18, 72 to 40, 32, 32.
        due("p36 AHEAD with RUB", x.first(0, 0, 3, 1), 1);
        due("p36 HALF with RUB", x.first(0, 0, 3, 2), 2);
        due("p36 what 3", x.first(0, 0, 3, 3), -1);
        due("p36 what -1", x.first(0, 0, 3, -1), -1);
    }

    private static void better() {
        HelmHand x = Testing.with("turn 1;calm 100;start 100 0;", "far 10;");
        Testing.tell(x, Testing.HAND, "far 20;");
        Testing.tell(x, Testing.HAND, "far 10;quick 50;");
        due("p37 the second one", x.better(0, 0, 1, 1), 1);
        due("p37 the first one", x.better(0, 1, 0, 1), 0);
        due("p37 alike", x.better(0, 0, 2, 1), 2);
        due("p37 himself", x.better(0, 1, 1, 9), 2);
        due("p37 no HAND", x.better(0, 3, 0, 1), -1);
        due("p37 no HAND", x.better(0, 0, 3, 1), -1);
        due("p37 no HAND", x.better(0, -1, 0, 1), -1);
        due("p37 no SHIP", x.better(1, 0, 1, 1), -1);
        due("p37 n 0", x.better(0, 0, 1, 0), -1);
        due("p37 n 201", x.better(0, 0, 1, 201), -1);
    }

    private static void wrongCalls() {
        int[][] wrong = {{1, 0, 9}, {-1, 0, 9}, {0, 1, 9}, {0, -1, 9}, {0, -2, 9}, {0, 0, 0}, {0, 0, -1}, {0, 0, 201}};
        for (int[] w : wrong) {
            dueAll(lively(), w[0], w[1], w[2], false);
        }
        dueAll(Testing.with("turn 0;calm 100;", ""), 0, 0, 1, true);
        dueAll(Testing.with("turn 0;calm 100;", ""), 0, 0, 200, true);
    }

    /** In a calm without a turn every trial answers something but NONE. */
    private static void dueAll(HelmHand x, int s, int h, int n, boolean right) {
        String of = " of " + s + " " + h + " " + n;
        boolean[] wrong = {x.found(s, h, n, 2, 2, 2) == -1, x.iron(s, h, n, true) == -1, x.iron(s, h, n, false) == -1,
            x.line(s, h, n, 0) == -1, x.hard(s, h, n, 9999) == -1, x.set(s, h, n) == MISSING, x.worth(s, h, n, 0) == NO_LONG,
            x.night(s, h, n, 1) == NO_LONG, x.cloud(s, h, n, 9999) == -1, x.coarse(s, h, n, 1) == -1,
            x.weary(s, h, n, 9999, true) == -1, x.tries(s, h, n, false) == -1, x.tries(s, h, n, true) == -1,
            x.learning(s, h, n, 1) == -1, x.lead(s, h, n, 0) == -1, x.bound(s, h, n, 9999, 0) == -1,
            x.bound(s, h, n, 9999, 1) == -1, x.first(s, h, n, 1) == -1, x.first(s, h, n, 2) == -1, x.better(s, h, h, n) == -1};
        for (int i = 0; i < wrong.length; i++) {
            due("trial " + i + of, wrong[i] ? 1 : 0, right ? 0 : 1);
        }
        if (!right) {
            due("p23 WEARY" + of, x.weary(s, h, n, 0, false), -1);
        }
    }
}
