import java.util.Random;

/** Promises 1 to 42: long mixed runs of calls, each answer against that of the Oracle. */
final class FuzzTest {
    private static final String[] SHIP_TEXTS = {"turn # ", "calm # ", "lag # ", "most # ", "gear # ", "rub # ",
        "wind ~ ", "trim ~ ", "start ~ ~ ", "sea ~ ", "sea ~ ~ ~ "};
    private static final String[] HAND_TEXTS = {"far # ", "quick # ", "been # ", "dead # ", "point # ", "wrong # ",
        "tired # ", "slips # ", "easy ", "star # # "};

    // An object is used for 512 calls at most; a step may make some 80.
    private static final int MOST_CALLS = 430;

    private final Random random;
    private final HelmHand x = new HelmHand();
    private final Oracle o = new Oracle();
    private int calls = 0;

    private FuzzTest(int seed) {
        random = new Random(seed);
    }

    public static void main(String[] args) {
        for (int seed = 0; seed < 1200; seed++) {
            FuzzTest fuzz = new FuzzTest(seed);
            fuzz.settle();
            for (int i = 0; i < 123 && fuzz.calls < MOST_CALLS; i++) {
                fuzz.one(i * 7 % 41);
            }
        }
        Testing.close("FuzzTest");
    }

    private int upTo(int n) {
        return random.nextInt(n + 1);
    }

    private boolean rarely() {
        return random.nextInt(12) == 0;
    }

    /** A number of a thing: mostly one that may be there, at times one that is not. */
    private int index(int sort) {
        int has = o.count(sort);
        return rarely() || has == 0 ? upTo(6) - 2 : random.nextInt(has);
    }

    private int odd(int least, int most) {
        return rarely() ? (random.nextBoolean() ? least - 1 : most + 1) : least + upTo(most - least);
    }

    private int trialLength() {
        return rarely() ? odd(1, 200) : 1 + upTo(30);
    }

    private int width() {
        int top = new int[] {20, 200, 2000, 20000}[upTo(3)];
        return rarely() ? -1 : upTo(top);
    }

    private String number(int sort, boolean wild) {
        int most = new int[] {9, 40, 99, 120, 12345}[wild ? upTo(4) : upTo(2)];
        return Integer.toString(upTo(most));
    }

    private String written(String shape, int sort, boolean wild) {
        StringBuilder text = new StringBuilder();
        for (char c : shape.toCharArray()) {
            if (c == '#') {
                text.append(number(sort, wild));
            } else if (c == '~') {
                text.append(new String[] {"", "-", "- "}[upTo(2)]).append(number(sort, wild));
            } else {
                text.append(c);
            }
        }
        return text.append(new String[] {";", ";\n", " ; "}[upTo(2)]).toString();
    }

    /** Things with which a RUN is worth a look. */
    private void settle() {
        int ships = 1 + upTo(1);
        int hands = 2 + upTo(2);
        int papers = 1 + upTo(1);
        int watches = 1 + upTo(1);
        for (int i = 0; i < 4; i++) {
            for (int k = 0; k < new int[] {ships, hands, papers, watches}[i]; k++) {
                tell(i, -1, lively(i));
            }
            if (rarely()) {
                texts();
            }
        }
    }

    private String maybe(String word, int least, int most) {
        return random.nextInt(3) == 0 ? "" : word + ' ' + (least + upTo(most - least)) + ';';
    }

    private String lively(int sort) {
        StringBuilder text = new StringBuilder();
        if (sort == 0) {
            text.append(maybe("turn", 0, 20)).append(maybe("calm", 0, 40)).append(maybe("lag", 0, 5))
                .append(maybe("most", 5, 35)).append(maybe("gear", 1, 20)).append(maybe("rub", 0, 4))
                .append(maybe("wind", -20, 20)).append(maybe("trim", -15, 40))
                .append("start ").append(upTo(600) - 300).append(' ').append(upTo(40) - 20).append(";sea");
            for (int k = upTo(11); k >= 0; k--) {
                text.append(' ').append(upTo(60) - 30);
            }
            text.append(';');
        } else if (sort == 1) {
            text.append(maybe("far", 0, 70)).append(maybe("quick", 0, 70)).append(maybe("been", 0, 20));
            if (random.nextBoolean()) {
                text.append(maybe("dead", 0, 30)).append(maybe("point", 1, 20)).append(maybe("wrong", 0, 6))
                    .append(maybe("tired", 0, 12)).append(random.nextBoolean() ? "easy;" : "");
            }
            if (random.nextInt(3) == 0) {
                text.append(maybe("slips", 0, 80));
            }
            for (int k = upTo(4); k > 0; k--) {
                int from = upTo(25);
                text.append("star ").append(from).append(' ').append(from + upTo(8)).append(';');
            }
        } else if (sort == 2) {
            text.append("row");
            for (int k = upTo(20); k >= 0; k--) {
                text.append(' ').append(upTo(400) - 200);
            }
            text.append(';');
        } else {
            for (int k = upTo(6); k > 0; k--) {
                text.append("man ").append(random.nextInt(Math.max(1, o.count(1)))).append(" ").append(1 + upTo(rarely() ? 199 : 20)).append(';');
            }
        }
        return text.toString();
    }

    private String text(int sort) {
        boolean wild = random.nextInt(3) == 0;
        StringBuilder text = new StringBuilder();
        int lines = sort == 2 ? 1 + upTo(3) : upTo(sort == 3 ? 5 : 6);
        for (int i = 0; i < lines; i++) {
            if (sort == 0) {
                text.append(written(SHIP_TEXTS[random.nextInt(SHIP_TEXTS.length)], sort, wild));
            } else if (sort == 1) {
                text.append(written(HAND_TEXTS[random.nextInt(HAND_TEXTS.length)], sort, wild));
            } else if (sort == 2) {
                text.append(written("row" + " ~".repeat(1 + upTo(wild ? 30 : 5)), sort, wild));
            } else {
                text.append("man ").append(upTo(wild ? 4 : 3)).append(' ').append(wild ? upTo(210) : 1 + upTo(40)).append(';');
            }
        }
        String told = text.toString();
        if (wild && told.length() > 0 && random.nextBoolean()) {
            int at = random.nextInt(told.length());
            String put = new String[] {"", "-", ";", "7", "x", " ", "?", "\u00e4", "\t", "sea"}[upTo(9)];
            told = told.substring(0, at) + put + told.substring(Math.min(told.length(), at + upTo(1)));
        }
        return told;
    }

    private void texts() {
        int sort = random.nextInt(4);
        int at = random.nextInt(3) == 0 ? upTo(4) - 1 : -1;
        tell(rarely() ? upTo(6) - 1 : sort, at, random.nextBoolean() ? text(sort) : lively(sort));
    }

    private void tell(int sort, int at, String told) {
        byte[] bytes = told.getBytes(java.nio.charset.StandardCharsets.ISO_8859_1);
        int has = o.now.tape.length();
        for (int i = 0; i < bytes.length; i += 20) {
            int[] w = new int[5];
            for (int k = 0; k < 5; k++) {
                w[k] = Testing.word(bytes, i + 4 * k);
            }
            due("feed", x.feed(w[0], w[1], w[2], w[3], w[4]), o.feed(w));
        }
        due("end", x.end(has + bytes.length), o.end(has + bytes.length));
        String call = "'" + told.replace("\n", "|") + "' text " + sort + " " + at;
        due(call, x.text(sort, at), o.text(sort, at));
        due(call + " fault(0)", x.fault(0), o.fault(0));
        due(call + " fault(1)", x.fault(1), o.fault(1));
        lookAround();
    }

    private void lookAround() {
        for (int k = 0; k < 3; k++) {
            int i = upTo(3) - 1;
            int what = upTo(34) - 1;
            due("ship", x.ship(i, what), o.ship(i, what));
            due("hand", x.hand(i, what), o.hand(i, what));
            due("paper", x.paper(i, what), o.paper(i, what));
            due("watch", x.watch(i, what, 0), o.watch(i, what, 0));
            due("watch", x.watch(i, what, 1), o.watch(i, what, 1));
        }
    }

    private void due(String call, long got, long want) {
        calls++;
        Testing.due(call, got, want);
    }

    private void due(String call, boolean got, boolean want) {
        calls++;
        Testing.due(call, got, want);
    }

    private void one(int call) {
        int s = index(0);
        int h = index(1);
        int g = index(1);
        int p = index(2);
        int v = index(3);
        int n = trialLength();
        int w = width();
        int seed = random.nextInt();
        boolean flag = random.nextBoolean();
        String told = "call " + call + " ship " + s + " hands " + h + " " + g + " paper " + p + " watch " + v + " n " + n
            + " w " + w + " seed " + seed + " " + flag;
        if (call < 20) {
            lower(call, told, new int[] {s, h, g, p, v, n, w, seed}, flag);
        } else {
            upper(call, told, new int[] {s, h, g, p, v, n, w, seed}, flag);
        }
    }

    private void lower(int call, String told, int[] a, boolean flag) {
        int s = a[0];
        int h = a[1];
        int n = a[5];
        int w = a[6];
        int long400 = rarely() ? odd(1, 400) : 1 + upTo(60);
        int what = odd(0, 9);
        int few = odd(0, 2);
        int lag = odd(0, 9);
        int b = odd(0, 20);
        int c = odd(0, 20);
        switch (call) {
            case 0: texts(); break;
            case 1: due(told, x.end(few * 7), o.end(few * 7)); break;
            case 2: due(told, x.fault(few), o.fault(few)); break;
            case 3: due(told, x.ship(s, what), o.ship(s, what)); break;
            case 4: due(told, x.hand(h, what), o.hand(h, what)); break;
            case 5: due(told, x.paper(a[3], what), o.paper(a[3], what)); break;
            case 6: due(told, x.watch(a[4], what, few), o.watch(a[4], what, few)); break;
            case 7: due(told, x.second(s, h, a[7], long400, few + 1), o.second(s, h, a[7], long400, few + 1)); break;
            case 8: due(told + what, x.run(s, h, a[7], long400, what), o.run(s, h, a[7], long400, what)); break;
            case 9: due(told, x.peak(s, h, a[7], long400, few), o.peak(s, h, a[7], long400, few)); break;
            case 10: due(told, x.found(s, h, n, b, c, few), o.found(s, h, n, b, c, few)); break;
            case 11: due(told, x.iron(s, h, n, flag), o.iron(s, h, n, flag)); break;
            case 12: due(told, x.line(s, h, n, lag), o.line(s, h, n, lag)); break;
            case 13: due(told, x.alone(s, n, w), o.alone(s, n, w)); break;
            case 14: due(told, x.hard(s, h, n, w), o.hard(s, h, n, w)); break;
            case 15: due(told, x.set(s, h, n), o.set(s, h, n)); break;
            case 16: due(told, x.worth(s, h, n, few), o.worth(s, h, n, few)); break;
            case 17: due(told, x.night(s, h, n, w), o.night(s, h, n, w)); break;
            case 18: due(told, x.cloud(s, h, n, w), o.cloud(s, h, n, w)); break;
            default: due(told, x.coarse(s, h, n, lag * 7), o.coarse(s, h, n, lag * 7)); break;
        }
    }

    private void upper(int call, String told, int[] a, boolean flag) {
        int s = a[0];
        int h = a[1];
        int g = a[2];
        int p = a[3];
        int n = a[5];
        int w = a[6];
        int few = odd(0, 2);
        int lag = odd(0, 9);
        int b = odd(0, 20);
        int c = odd(0, 20);
        int seed = rarely() ? Integer.MAX_VALUE - 3 : a[7];
        int ask = random.nextInt(3) == 0 ? 1000 + upTo(60) : odd(0, 5);
        int bits = rarely() ? a[7] : upTo((1 << o.count(1)) - 1);
        switch (call) {
            case 20: due(told, x.weary(s, h, n, w, flag), o.weary(s, h, n, w, flag)); break;
            case 21: due(told, x.tries(s, h, n, flag), o.tries(s, h, n, flag)); break;
            case 22: due(told, x.learning(s, h, n, b + lag), o.learning(s, h, n, b + lag)); break;
            case 23: due(told + ask, x.steers(s, a[4], seed, ask), o.steers(s, a[4], seed, ask)); break;
            case 24: due(told, x.change(s, h, g, n), o.change(s, h, g, n)); break;
            case 25: due(told + bits, x.order(s, bits, n, few), o.order(s, bits, n, few)); break;
            case 26: due(told, x.both(s, h, g, n, flag), o.both(s, h, g, n, flag)); break;
            case 27: due(told, x.apart(s, h, p, flag), o.apart(s, h, p, flag)); break;
            case 28: due(told, x.whose(s, p), o.whose(s, p)); break;
            case 29: due(told, x.tells(s, h, p), o.tells(s, h, p)); break;
            case 30: due(told, x.slipped(s, h, seed, b, n, flag), o.slipped(s, h, seed, b, n, flag)); break;
            case 31: due(told, x.lead(s, h, n, lag), o.lead(s, h, n, lag)); break;
            case 32: due(told, x.bound(s, h, n, w, few), o.bound(s, h, n, w, few)); break;
            case 33: due(told, x.first(s, h, n, few), o.first(s, h, n, few)); break;
            case 34: due(told, x.better(s, h, g, n), o.better(s, h, g, n)); break;
            case 35: due(told, x.reads(s, h, p, b, c, few), o.reads(s, h, p, b, c, few)); break;
            case 36: due(told, x.parted(s, h, g, p), o.parted(s, h, g, p)); break;
            case 37: due(told, x.count(few), o.count(few)); break;
            case 38: due(told, x.image(few), o.image(few)); break;
            case 39:
                if (random.nextInt(3) == 0) {
                    due(told, x.again(few), o.again(few));
                    lookAround();
                }
                break;
            default: paperOfARun(s, h, n); break;
        }
    }

    /** A PAPER told from a RUN, so that APART, SAME, WHOSE, TELLS, READS come near to 0. */
    private void paperOfARun(int s, int h, int n) {
        StringBuilder text = new StringBuilder("row");
        for (int t = 1; t <= Math.min(Math.max(n, 1), 20); t++) {
            int heading = o.second(s, h, 0, t, 0);
            text.append(' ').append(Math.max(-9999, Math.min(9999, heading)));
        }
        text.append(';');
        o.text(9, 0);
        x.text(9, 0);
        tell(2, o.count(2) == 2 ? random.nextInt(2) : -1, text.toString());
        if (o.count(2) > 0) {
            int p = random.nextInt(o.count(2));
            due("apart", x.apart(s, h, p, true), o.apart(s, h, p, true));
            due("whose", x.whose(s, p), o.whose(s, p));
            due("tells", x.tells(s, h, p), o.tells(s, h, p));
            due("reads", x.reads(s, h, p, 20, 20, 0), o.reads(s, h, p, 20, 20, 0));
            due("parted", x.parted(s, h, 0, p), o.parted(s, h, 0, p));
        }
    }
}
