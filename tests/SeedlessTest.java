import java.util.Random;

/**
 * Term 2, "Where no SEED is told: 0": each such call by HANDS that SLIP, against the Oracle. For each call there must be
 * some answers that another SEED, one more or one less, would change: else it would not be seen which SEED is taken.
 */
final class SeedlessTest {
    private interface Ask {
        long of(Object who, int n, int k);
    }

    private HelmHand x;
    private Oracle o;
    private final Random random = new Random(29);

    public static void main(String[] args) {
        SeedlessTest test = new SeedlessTest();
        test.all();
        Testing.close("SeedlessTest");
    }

    private void tell(int sort, String text) {
        Testing.due("told " + text, Testing.tell(x, sort, text) >= 0, true);
        byte[] bytes = text.getBytes(java.nio.charset.StandardCharsets.ISO_8859_1);
        for (int i = 0; i < bytes.length; i += 20) {
            o.feed(Testing.word(bytes, i), Testing.word(bytes, i + 4), Testing.word(bytes, i + 8), Testing.word(bytes, i + 12),
                Testing.word(bytes, i + 16));
        }
        Testing.due("told " + text, o.text(sort, -1) >= 0, true);
    }

    private int upTo(int n) {
        return random.nextInt(n + 1);
    }

    private void tellAnew() {
        x = new HelmHand();
        o = new Oracle();
        StringBuilder row = new StringBuilder("row");
        for (int k = 0; k < 12; k++) {
            row.append(' ').append(upTo(300) - 150);
        }
        tell(0, "turn " + (1 + upTo(4)) + ";calm 30;lag " + upTo(2) + ";rub 1;wind " + (upTo(10) - 5) + ";start "
            + (upTo(400) - 200) + " 0;sea 9 -20 " + upTo(60) + " -9;");
        for (int k = 0; k < 3; k++) {
            tell(1, "far " + (10 + upTo(50)) + ";quick " + (5 + upTo(50)) + ";been " + upTo(20) + ";slips "
                + (20 + upTo(50)) + ";" + "wrong " + upTo(2) + ";star 3 9;");
        }
        tell(2, row + ";");
    }

    private void all() {
        ask("p13", (w, n, k) -> w == x ? x.found(0, 0, n, 9, 9, k % 3) : o.found(0, 0, n, 9, 9, k % 3));
        ask("p14", (w, n, k) -> w == x ? x.iron(0, 0, n, k > 4) : o.iron(0, 0, n, k > 4));
        ask("p15", (w, n, k) -> w == x ? x.line(0, 0, n, k) : o.line(0, 0, n, k));
        ask("p17", (w, n, k) -> w == x ? x.hard(0, 0, n, 60 + 30 * k) : o.hard(0, 0, n, 60 + 30 * k));
        ask("p18", (w, n, k) -> w == x ? x.set(0, 0, n) : o.set(0, 0, n));
        for (int what = 0; what < 3; what++) {
            int i = what;
            ask("p19 what " + i, (w, n, k) -> w == x ? x.worth(0, 0, n, i) : o.worth(0, 0, n, i));
            ask("p35 what " + i, (w, n, k) -> w == x ? x.bound(0, 0, n, 60 + 30 * k, i) : o.bound(0, 0, n, 60 + 30 * k, i));
        }
        ask("p20", (w, n, k) -> w == x ? x.night(0, 0, n, k) : o.night(0, 0, n, k));
        ask("p21", (w, n, k) -> w == x ? x.cloud(0, 0, n, 60 + 30 * k) : o.cloud(0, 0, n, 60 + 30 * k));
        ask("p22", (w, n, k) -> w == x ? x.coarse(0, 0, n, 50) : o.coarse(0, 0, n, 50));
        ask("p23 WEARY", (w, n, k) -> w == x ? x.weary(0, 0, n, 20 * k, false) : o.weary(0, 0, n, 20 * k, false));
        ask("p23 STEADY", (w, n, k) -> w == x ? x.weary(0, 0, n, 10 * k, true) : o.weary(0, 0, n, 10 * k, true));
        ask("p24", (w, n, k) -> w == x ? x.tries(0, 0, n, k > 4) : o.tries(0, 0, n, k > 4));
        ask("p25", (w, n, k) -> w == x ? x.learning(0, 0, n, k) : o.learning(0, 0, n, k));
        ask("p27", (w, n, k) -> w == x ? x.change(0, 0, 1, n) : o.change(0, 0, 1, n));
        ask("p28", (w, n, k) -> w == x ? x.order(0, 7, n, 0) : o.order(0, 7, n, 0));
        ask("p29", (w, n, k) -> w == x ? x.both(0, 0, 1, n, k > 4) : o.both(0, 0, 1, n, k > 4));
        ask("p30", (w, n, k) -> w == x ? x.apart(0, 0, 0, false) : o.apart(0, 0, 0, false));
        ask("p31", (w, n, k) -> w == x ? x.whose(0, 0) : o.whose(0, 0));
        ask("p32", (w, n, k) -> w == x ? x.tells(0, 0, 0) : o.tells(0, 0, 0));
        ask("p34", (w, n, k) -> w == x ? x.lead(0, 0, n, k) : o.lead(0, 0, n, k));
        ask("p36 AHEAD", (w, n, k) -> w == x ? x.first(0, 0, n, 1) : o.first(0, 0, n, 1));
        ask("p36 HALF", (w, n, k) -> w == x ? x.first(0, 0, n, 2) : o.first(0, 0, n, 2));
        ask("p37", (w, n, k) -> w == x ? x.better(0, 0, 1, n) : o.better(0, 0, 1, n));
        ask("p38", (w, n, k) -> w == x ? x.reads(0, 0, 0, 9, 9, k % 3) : o.reads(0, 0, 0, 9, 9, k % 3));
        ask("p39", (w, n, k) -> w == x ? x.parted(0, 0, 1, 0) : o.parted(0, 0, 1, 0));
    }

    private long byAnother(Ask ask, int seed, int n, int k) {
        o.seedless = seed;
        long answer = ask.of(o, n, k);
        o.seedless = 0;
        return answer;
    }

    private void ask(String call, Ask ask) {
        int more = 0;
        int less = 0;
        for (int i = 0; i < 24; i++) {
            tellAnew();
            int n = 12 + upTo(30);
            int k = upTo(9);
            long want = ask.of(o, n, k);
            Testing.due(call + " of " + n + ", " + k, ask.of(x, n, k), want);
            more += byAnother(ask, 1, n, k) != want ? 1 : 0;
            less += byAnother(ask, -1, n, k) != want ? 1 : 0;
        }
        Testing.due(call + ": SEED 1 would be seen", more > 0, true);
        Testing.due(call + ": SEED -1 would be seen", less > 0, true);
    }
}
