import java.nio.charset.StandardCharsets;

/** What every test uses: a call's answer against the one that is due, and texts put on the tape. */
final class Testing {
    static final int SHIP = 0;
    static final int HAND = 1;
    static final int PAPER = 2;
    static final int WATCH = 3;
    static final int NONE = -1;
    static final int MISSING = -100000;
    static final long NO_LONG = Long.MIN_VALUE;

    private static int passed = 0;
    private static int failed = 0;

    private Testing() {
    }

    static void due(String call, long got, long want) {
        if (got == want) {
            passed++;
            return;
        }
        failed++;
        if (failed <= 40) {
            System.out.println(call + " answered " + got + ", due is " + want);
        }
    }

    static void due(String call, boolean got, boolean want) {
        due(call, got ? 1 : 0, want ? 1 : 0);
    }

    /** Puts a text on the tape, at most as the tape takes it. */
    static void put(HelmHand x, String text) {
        byte[] bytes = text.getBytes(StandardCharsets.ISO_8859_1);
        int has = x.feed(0, 0, 0, 0, 0) - 20;
        x.end(has);
        for (int i = 0; i < bytes.length; i += 20) {
            x.feed(word(bytes, i), word(bytes, i + 4), word(bytes, i + 8), word(bytes, i + 12), word(bytes, i + 16));
        }
        x.end(has + bytes.length);
    }

    static int word(byte[] bytes, int at) {
        int word = 0;
        for (int i = at; i < at + 4; i++) {
            word = word << 8 | (i < bytes.length ? bytes[i] & 255 : 32);
        }
        return word;
    }

    static int tell(HelmHand x, int sort, String text) {
        put(x, text);
        return x.text(sort, NONE);
    }

    /** A new object with one SHIP and one HAND. */
    static HelmHand with(String ship, String hand) {
        HelmHand x = new HelmHand();
        due("SHIP " + ship, tell(x, SHIP, ship), 0);
        due("HAND " + hand, tell(x, HAND, hand), 0);
        return x;
    }

    /** A new object with one SHIP and as many HANDS as are told. */
    static HelmHand crew(String ship, String... hands) {
        HelmHand x = new HelmHand();
        due("SHIP " + ship, tell(x, SHIP, ship), 0);
        for (int i = 0; i < hands.length; i++) {
            due("HAND " + hands[i], tell(x, HAND, hands[i]), i);
        }
        return x;
    }

    /** A text in the place of the last one of its sort, if there are as many as may be, else a further one. */
    static int tellOver(HelmHand x, int sort, String text) {
        put(x, text);
        int at = x.count(sort) == 2 ? 1 : NONE;
        int place = x.text(sort, at);
        due("told: " + text, place, at == 1 ? 1 : x.count(sort) - 1);
        return place;
    }

    /** Of the RUN of SHIP 0 by HAND 0 what is due behind the seconds 0, 1, 2 and so on. */
    static void dueRow(String call, HelmHand x, int seed, int what, int... want) {
        for (int t = 0; t < want.length; t++) {
            due(call + ": second " + t + " what " + what, x.second(0, 0, seed, t, what), want[t]);
        }
    }

    static void dueSteering(String call, String ship, String hand, int what, int... want) {
        dueRow(call, with(ship, hand), 0, what, want);
    }

    static void dueFault(int sort, String text, int fault, int place) {
        HelmHand x = new HelmHand();
        int answer = tell(x, sort, text);
        String call = "sort " + sort + " '" + text + "': ";
        due(call + "text", answer, fault == 0 ? 0 : NONE);
        due(call + "fault(0)", x.fault(0), fault);
        due(call + "fault(1)", x.fault(1), place);
        due(call + "count", x.count(sort), fault == 0 ? 1 : 0);
        due(call + "tape is empty", x.feed(0, 0, 0, 0, 0), 20);
    }

    static void close(String name) {
        System.out.println(name + ": " + passed + " as due, " + failed + " not");
        if (failed != 0) {
            System.exit(1);
        }
    }
}
