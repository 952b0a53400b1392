import java.util.ArrayList;
import java.util.List;

/**
 * What promises 10 to 39 answer where "there is none such", or a number is another one: each argument of each call at
 * its least and its greatest, one step within and one step beyond, while the others are in their ranges.
 */
final class EdgeCallTest {
    private static final int LEAST = Integer.MIN_VALUE;
    private static final int MOST = Integer.MAX_VALUE;
    private static final int NONE = Testing.NONE;
    private static final int MISSING = Testing.MISSING;
    private static final long NO_LONG = Testing.NO_LONG;

    // In this SHIP no call has a reason of its own to answer that there is none: she lies still whoever steers.
    private static final String STILL = "turn 0;calm 100;";

    private interface Call {
        long of(HelmHand x, int[] a);
    }

    /** A call, what it answers if there is none such, and from where to where each argument goes. */
    private record Row(String name, long none, Call call, int[][] ranges) {
    }

    private final int[] counts;
    private final int[] ship;
    private final int[] hand;
    private final int[] handOrNone;
    private final int[] paper;
    private final int[] watch;
    private final int[] n = {1, 200};
    private final int[] any = {LEAST, MOST};
    private final int[] width = {0, MOST};
    private final List<Row> rows = new ArrayList<>();

    private EdgeCallTest(int... counts) {
        this.counts = counts;
        ship = new int[] {0, counts[Testing.SHIP] - 1};
        hand = new int[] {0, counts[Testing.HAND] - 1};
        handOrNone = new int[] {NONE, counts[Testing.HAND] - 1};
        paper = new int[] {0, counts[Testing.PAPER] - 1};
        watch = new int[] {0, counts[Testing.WATCH] - 1};
    }

    private HelmHand told() {
        HelmHand x = new HelmHand();
        String[] texts = {STILL, "far 9;", "row 1 2 3;", "man 0 9;man 0 9;"};
        for (int sort = 0; sort < 4; sort++) {
            for (int k = 0; k < counts[sort]; k++) {
                Testing.due("told", Testing.tell(x, sort, texts[sort]), k);
            }
        }
        return x;
    }

    public static void main(String[] args) {
        for (int[] counts : new int[][] {{2, 4, 2, 2}, {1, 1, 1, 1}, {2, 3, 1, 2}, {1, 2, 2, 1}}) {
            EdgeCallTest test = new EdgeCallTest(counts);
            test.runs();
            test.trials();
            test.moreTrials();
            test.crews();
            test.papers();
            for (Row row : test.rows) {
                test.walk(row);
            }
        }
        nothingTold();
        Testing.close("EdgeCallTest");
    }

    private void add(String name, long none, Call call, int[]... ranges) {
        rows.add(new Row(name, none, call, ranges));
    }

    private static int[] upTo(int most) {
        return new int[] {0, most};
    }

    private static int[] range(int least, int most) {
        return new int[] {least, most};
    }

    private void runs() {
        add("p10 second", MISSING, (h, a) -> h.second(a[0], a[1], a[2], a[3], a[4]), ship, handOrNone, any, upTo(400), upTo(3));
        add("p11 run", NO_LONG, (h, a) -> h.run(a[0], a[1], a[2], a[3], a[4]), ship, handOrNone, any, range(1, 400), upTo(9));
        add("p12 peak", NONE, (h, a) -> h.peak(a[0], a[1], a[2], a[3], a[4]), ship, handOrNone, any, range(1, 400), upTo(0));
    }

    private void trials() {
        add("p13 found", NONE, (h, a) -> h.found(a[0], a[1], a[2], a[3], a[4], a[5]), ship, hand, n, upTo(20), upTo(20), upTo(2));
        for (boolean flag : new boolean[] {false, true}) {
            add("p14 iron " + flag, NONE, (h, a) -> h.iron(a[0], a[1], a[2], flag), ship, hand, n);
            add("p24 tries " + flag, NONE, (h, a) -> h.tries(a[0], a[1], a[2], flag), ship, hand, n);
        }
        add("p15 line", NONE, (h, a) -> h.line(a[0], a[1], a[2], a[3]), ship, hand, n, upTo(9));
        add("p16 alone", NONE, (h, a) -> h.alone(a[0], a[1], a[2]), ship, n, width);
        add("p17 hard", NONE, (h, a) -> h.hard(a[0], a[1], a[2], a[3]), ship, hand, n, width);
        add("p18 set", MISSING, (h, a) -> h.set(a[0], a[1], a[2]), ship, hand, n);
        add("p19 worth", NO_LONG, (h, a) -> h.worth(a[0], a[1], a[2], a[3]), ship, hand, n, upTo(2));
        add("p20 night", NO_LONG, (h, a) -> h.night(a[0], a[1], a[2], a[3]), ship, hand, n, upTo(999));
        add("p21 cloud", NONE, (h, a) -> h.cloud(a[0], a[1], a[2], a[3]), ship, hand, n, width);
        add("p22 coarse", NONE, (h, a) -> h.coarse(a[0], a[1], a[2], a[3]), ship, hand, n, range(1, 50));
        add("p23 steady", NONE, (h, a) -> h.weary(a[0], a[1], a[2], a[3], true), ship, hand, n, width);
        add("p25 learning", NONE, (h, a) -> h.learning(a[0], a[1], a[2], a[3]), ship, hand, n, upTo(30));
    }

    private void moreTrials() {
        add("p33 slipped", MISSING, (h, a) -> h.slipped(a[0], a[1], a[2], a[3], a[4], false), ship, hand, any, range(1, 20), n);
        add("p33 luck", MISSING, (h, a) -> h.slipped(a[0], a[1], a[2], a[3], a[4], true), ship, hand, any, range(1, 20), n);
        add("p34 lead", NONE, (h, a) -> h.lead(a[0], a[1], a[2], a[3]), ship, hand, n, upTo(9));
        add("p35 bound", NONE, (h, a) -> h.bound(a[0], a[1], a[2], a[3], a[4]), ship, hand, n, width, upTo(2));
        // BROACH (what 0) never comes in a SHIP that lies still.
        add("p36 first", NONE, (h, a) -> h.first(a[0], a[1], a[2], a[3]), ship, hand, n, range(1, 2));
        add("p37 better", NONE, (h, a) -> h.better(a[0], a[1], a[2], a[3]), ship, hand, hand, n);
    }

    private void crews() {
        add("p26 steers", MISSING, (h, a) -> h.steers(a[0], a[1], a[2], a[3]), ship, watch, any, upTo(4));
        add("p26 steers, HEADINGS", MISSING, (h, a) -> h.steers(a[0], a[1], a[2], a[3]), ship, watch, any, range(1000, 1018));
        add("p27 change", NONE, (h, a) -> h.change(a[0], a[1], a[2], a[3]), ship, hand, hand, n);
        int hands = counts[Testing.HAND];
        int all = (1 << hands) - 1;
        add("p28 order, one", NONE, (h, a) -> h.order(a[0], 1, a[1], a[2]), ship, n, upTo(0));
        add("p28 order, all", NONE, (h, a) -> h.order(a[0], all, a[1], a[2]), ship, range(hands, 200), upTo(hands - 1));
        add("p28 order, HANDS", NONE, (h, a) -> h.order(a[0], a[1], 4, 0), ship, range(1, all));
        for (boolean flag : new boolean[] {false, true}) {
            add("p29 both " + flag, NONE, (h, a) -> h.both(a[0], a[1], a[2], a[3], flag), ship, hand, hand, n);
        }
    }

    private void papers() {
        for (boolean flag : new boolean[] {false, true}) {
            add("p30 apart " + flag, NONE, (h, a) -> h.apart(a[0], a[1], a[2], flag), ship, hand, paper);
        }
        add("p31 whose", NONE, (h, a) -> h.whose(a[0], a[1]), ship, paper);
        add("p32 tells", NONE, (h, a) -> h.tells(a[0], a[1], a[2]), ship, hand, paper);
        add("p38 reads", NONE, (h, a) -> h.reads(a[0], a[1], a[2], a[3], a[4], a[5]), ship, hand, paper, upTo(20), upTo(20), upTo(2));
        add("p39 parted", NONE, (h, a) -> h.parted(a[0], a[1], a[2], a[3]), ship, hand, hand, paper);
    }

    /** Each argument by itself, once with the others at their least, once with them at their most. */
    private void walk(Row row) {
        for (int side = 0; side < 2; side++) {
            HelmHand x = told();
            int[] a = new int[row.ranges.length];
            for (int i = 0; i < a.length; i++) {
                int[] range = row.ranges[i];
                a[i] = range == n && side == 1 ? 9 : range[side];
            }
            for (int i = 0; i < a.length; i++) {
                int stays = a[i];
                int least = row.ranges[i][0];
                int most = row.ranges[i][1];
                for (int v : new int[] {LEAST, least - 1, least, least + 1, most - 1, most, most + 1, MOST}) {
                    a[i] = v;
                    boolean there = v >= least && v <= most;
                    boolean answers = row.call.of(x, a) != row.none;
                    Testing.due(row.name + " argument " + i + " being " + v + " of " + least + " .. " + most, answers, there);
                }
                a[i] = stays;
            }
        }
    }

    /** With a HAND alone there is no SHIP, and so on; with nothing there is nothing. */
    private static void nothingTold() {
        String[] texts = {STILL, "far 9;", "row 1;", "man 0 9;"};
        for (int told = 0; told < 16; told++) {
            HelmHand x = new HelmHand();
            for (int sort = 0; sort < 4; sort++) {
                if ((told >> sort & 1) == 1) {
                    Testing.tell(x, sort, texts[sort]);
                }
            }
            boolean ship = (told & 1) == 1;
            boolean both = (told & 3) == 3;
            boolean paper = both && (told & 4) == 4;
            boolean watch = both && (told & 8) == 8;
            due("p10 without a HAND", x.second(0, NONE, 0, 1, 0) != MISSING, ship);
            due("p10", x.second(0, 0, 0, 1, 0) != MISSING, both);
            due("p11 without a HAND", x.run(0, NONE, 0, 1, 0) != NO_LONG, ship);
            due("p12 without a HAND", x.peak(0, NONE, 0, 1, 0) != NONE, ship);
            due("p13", x.found(0, 0, 1, 1, 1, 0) != NONE, both);
            due("p16", x.alone(0, 1, 0) != NONE, ship);
            due("p18", x.set(0, 0, 1) != MISSING, both);
            due("p26", x.steers(0, 0, 0, 0) != MISSING, watch);
            due("p27", x.change(0, 0, 0, 1) != NONE, both);
            due("p28", x.order(0, 1, 1, 0) != NONE, both);
            due("p29", x.both(0, 0, 0, 1, true) != NONE, both);
            due("p30", x.apart(0, 0, 0, true) != NONE, paper);
            due("p31", x.whose(0, 0) != NONE, paper);
            due("p32", x.tells(0, 0, 0) != NONE, paper);
            due("p37", x.better(0, 0, 0, 1) != NONE, both);
            due("p38", x.reads(0, 0, 0, 1, 1, 0) != NONE, paper);
            due("p39", x.parted(0, 0, 0, 0) != NONE, paper);
        }
    }

    private static void due(String call, boolean got, boolean want) {
        Testing.due(call, got, want);
    }
}
