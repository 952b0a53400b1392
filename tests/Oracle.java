import java.util.ArrayList;
import java.util.Arrays;
import java.util.List;
import java.util.function.Consumer;
import java.util.function.IntPredicate;
import java.util.function.IntToLongFunction;
import java.util.function.IntUnaryOperator;
import java.util.regex.Matcher;
import java.util.regex.Pattern;

/** The document's words once more, written apart from HelmHand and with the whole Java library. */
final class Oracle {
    static final int NONE = -1;
    static final int MISSING = -100000;
    static final long NO_LONG = Long.MIN_VALUE;

    static final String[] SHIP_WORDS = {"turn", "calm", "lag", "most", "gear", "rub", "wind", "trim", "start", "sea"};
    static final int[][] SHIP_RANGE = {{0, 99}, {0, 100}, {0, 9}, {1, 35}, {1, 35}, {0, 99}, {-99, 99}, {-99, 99}, {-999, 999}, {-99, 99}};
    static final String[] HAND_WORDS = {"far", "quick", "been", "dead", "point", "wrong", "tired", "slips", "easy", "star"};
    static final int[][] HAND_RANGE = {{0, 99}, {0, 99}, {0, 99}, {0, 999}, {1, 999}, {0, 999}, {0, 999}, {0, 100}};
    static final String[] GRAMMAR = {
        "(([012345]N|[67]-?N|8-?N-?N|9-?N(-?N)*);)*", "(([01234567]N|8|9NN);)*", "(0-?N(-?N)*;)*", "(0NN;)*"};
    static final int[] ROOM = {2, 4, 2, 2};

    /** A SHIP's or a HAND's numbers (0 .. 9), and its rows; a PAPER's or WATCH's row alone. */
    static final class Thing {
        int[] n = new int[10];
        List<int[]> row = new ArrayList<>();

        Thing but(Consumer<Thing> change) {
            Thing other = new Thing();
            other.n = n.clone();
            other.row = new ArrayList<>(row);
            change.accept(other);
            return other;
        }

        Thing but(int what, int value) {
            return but(t -> t.n[what] = value);
        }
    }

    static final class State {
        String tape = "";
        int fault = 0;
        int place = NONE;
        List<List<Thing>> things = new ArrayList<>();

        State() {
            for (int i = 0; i < 4; i++) {
                things.add(new ArrayList<>());
            }
        }

        State copy() {
            State s = new State();
            s.tape = tape;
            s.fault = fault;
            s.place = place;
            for (int i = 0; i < 4; i++) {
                s.things.set(i, new ArrayList<>(things.get(i)));
            }
            return s;
        }
    }

    State now = new State();
    State[] images = new State[3];

    // ---- texts

    int feed(int... words) {
        if (now.tape.length() + 20 > 600) {
            return NONE;
        }
        StringBuilder more = new StringBuilder(now.tape);
        for (int w : words) {
            for (int shift = 24; shift >= 0; shift -= 8) {
                more.append((char) (w >>> shift & 255));
            }
        }
        now.tape = more.toString();
        return now.tape.length();
    }

    int end(int n) {
        if (n < 0 || n > now.tape.length()) {
            return NONE;
        }
        now.tape = now.tape.substring(0, n);
        return n;
    }

    int text(int sort, int at) {
        String tape = now.tape;
        now.tape = "";
        now.fault = 0;
        now.place = NONE;
        if (sort < 0 || sort > 3) {
            return -2;
        }
        List<Thing> has = now.things.get(sort);
        int where = at == NONE ? has.size() : at;
        if (where < 0 || (at == NONE ? where >= ROOM[sort] : where >= has.size())) {
            return -2;
        }
        Thing told = read(sort, tape);
        if (told == null) {
            return NONE;
        }
        if (where == has.size()) {
            has.add(told);
        } else {
            has.set(where, told);
        }
        return where;
    }

    private Thing read(int sort, String tape) {
        List<String> tokens = new ArrayList<>();
        List<Integer> places = new ArrayList<>();
        StringBuilder symbols = new StringBuilder();
        String[] words = sort == 0 ? SHIP_WORDS : sort == 1 ? HAND_WORDS : sort == 2 ? new String[] {"row"} : new String[] {"man"};
        Matcher m = Pattern.compile("[a-z]+|[0-9]+|[^ \n]", Pattern.DOTALL).matcher(tape);
        while (m.find()) {
            tokens.add(m.group());
            places.add(m.start());
            int word = Arrays.asList(words).indexOf(m.group());
            symbols.append(word >= 0 ? (char) ('0' + word) : m.group().matches("[0-9]{1,4}") ? 'N'
                : m.group().matches("[-;]") ? m.group().charAt(0) : '?');
        }
        for (int i = 1; i <= symbols.length(); i++) {
            Matcher viable = Pattern.compile(GRAMMAR[sort]).matcher(symbols.substring(0, i));
            if (!viable.matches() && !viable.hitEnd()) {
                return fail(1, places.get(i - 1));
            }
        }
        if (!symbols.toString().matches(GRAMMAR[sort])) {
            return fail(1, tape.length());
        }
        List<int[]> faults = new ArrayList<>();
        Thing told = new Thing();
        if (sort == 0) {
            told.n = new int[] {5, 10, 0, 35, 35, 0, 0, 0, 0, 0};
            told.row.add(new int[] {0});
        } else if (sort == 1) {
            told.n[4] = 1;
        }
        int i = 0;
        while (i < tokens.size()) {
            int word = symbols.charAt(i) - '0';
            int first = i;
            List<int[]> numbers = new ArrayList<>();
            for (i++; symbols.charAt(i) != ';'; i++) {
                boolean minus = symbols.charAt(i) == '-';
                int begins = places.get(i);
                if (minus) {
                    i++;
                }
                int value = Integer.parseInt(tokens.get(i));
                numbers.add(new int[] {minus ? -value : value, places.get(i), begins});
            }
            i++;
            take(sort, word, places.get(first), numbers, told, faults);
        }
        faults.sort((a, b) -> a[1] != b[1] ? a[1] - b[1] : a[0] - b[0]);
        if (!faults.isEmpty()) {
            return fail(faults.get(0)[0], faults.get(0)[1]);
        }
        if (sort == 2 && told.row.isEmpty()) {
            return fail(4, tape.length());
        }
        return told;
    }

    private void take(int sort, int word, int first, List<int[]> numbers, Thing told, List<int[]> faults) {
        boolean row = sort == 0 && word == 9 || sort == 2;
        boolean pair = sort == 1 && word == 9 || sort == 3;
        if (row) {
            if (sort == 0) {
                told.row.clear();
            }
            for (int[] number : numbers) {
                limit(number, sort == 0 ? -99 : -9999, sort == 0 ? 99 : 9999, faults);
                told.row.add(new int[] {number[0]});
                if (told.row.size() > (sort == 0 ? 12 : 60)) {
                    faults.add(new int[] {3, number[2]});
                }
            }
        } else if (pair) {
            limit(numbers.get(0), 0, sort == 1 ? 999 : 3, faults);
            limit(numbers.get(1), sort == 1 ? numbers.get(0)[0] : 1, sort == 1 ? 999 : 200, faults);
            told.row.add(new int[] {numbers.get(0)[0], numbers.get(1)[0]});
            if (told.row.size() > (sort == 1 ? 4 : 8)) {
                faults.add(new int[] {3, first});
            }
        } else if (numbers.isEmpty()) {
            told.n[8] = 1;
        } else {
            int[] range = sort == 0 ? SHIP_RANGE[word] : HAND_RANGE[word];
            for (int k = 0; k < numbers.size(); k++) {
                limit(numbers.get(k), range[0], range[1], faults);
                told.n[word + k] = numbers.get(k)[0];
            }
        }
    }

    private static void limit(int[] number, int least, int most, List<int[]> faults) {
        if (number[0] < least || number[0] > most) {
            faults.add(new int[] {2, number[1]});
        }
    }

    private Thing fail(int fault, int place) {
        now.fault = fault;
        now.place = place;
        return null;
    }

    int fault(int what) {
        return what == 0 ? now.fault : what == 1 ? now.place : NONE;
    }

    Thing thing(int sort, int k) {
        List<Thing> has = now.things.get(sort);
        return k >= 0 && k < has.size() ? has.get(k) : null;
    }

    int ship(int ship, int what) {
        Thing s = thing(0, ship);
        if (s == null || what < 0) {
            return MISSING;
        }
        if (what < 10) {
            return s.n[what];
        }
        if (what == 10) {
            return s.row.size();
        }
        return what >= 20 && what < 20 + s.row.size() ? s.row.get(what - 20)[0] : MISSING;
    }

    int hand(int hand, int what) {
        Thing h = thing(1, hand);
        if (h == null || what < 0) {
            return NONE;
        }
        if (what < 9) {
            return h.n[what];
        }
        if (what == 9) {
            return h.row.size();
        }
        int k = what % 10;
        return what < 30 && k < h.row.size() ? h.row.get(k)[what / 10 - 1] : NONE;
    }

    int paper(int paper, int k) {
        Thing p = thing(2, paper);
        if (p == null) {
            return MISSING;
        }
        return k == NONE ? p.row.size() : k >= 0 && k < p.row.size() ? p.row.get(k)[0] : MISSING;
    }

    int watch(int watch, int k, int what) {
        Thing w = thing(3, watch);
        if (w == null) {
            return NONE;
        }
        if (k == NONE) {
            return what == 0 ? w.row.size() : NONE;
        }
        return k >= 0 && k < w.row.size() && what >= 0 && what < 2 ? w.row.get(k)[what] : NONE;
    }

    // ---- a RUN

    /** The SEED of RUNS for which none is told: 0, but for SeedlessTest, which looks whether that counts. */
    int seedless = 0;

    /** One leg of a RUN: who steers (none, one, two of them), how long. */
    record Leg(int seconds, Thing... hands) {
    }

    static final class Track {
        Thing ship;
        List<int[]> rows = new ArrayList<>();

        int n() {
            return rows.size() - 1;
        }

        int h(int t) {
            return rows.get(t)[0];
        }

        int turned(int t) {
            return Math.abs(rows.get(t)[2] - rows.get(t - 1)[2]);
        }

        long costAt(int t) {
            return Math.abs(h(t)) + (long) ship.n[5] * turned(t);
        }

        long sum(IntToLongFunction of) {
            long all = 0;
            for (int t = 1; t <= n(); t++) {
                all += of.applyAsLong(t);
            }
            return all;
        }

        long cost() {
            return sum(this::costAt);
        }

        long widest() {
            long most = 0;
            for (int t = 1; t <= n(); t++) {
                most = Math.max(most, Math.abs(h(t)));
            }
            return most;
        }

        List<Integer> peaks() {
            List<Integer> peaks = new ArrayList<>(List.of(0));
            int sign = Integer.signum(h(0));
            for (int t = 1; t <= n(); t++) {
                int s = Integer.signum(h(t));
                if (s != 0 && sign != 0 && s != sign) {
                    peaks.add(0);
                }
                if (s != 0) {
                    sign = s;
                }
                int end = peaks.size() - 1;
                peaks.set(end, Math.max(peaks.get(end), Math.abs(h(t))));
            }
            return peaks;
        }

        boolean grows() {
            List<Integer> p = peaks();
            return p.size() >= 3 && p.get(p.size() - 2) > p.get(p.size() - 3);
        }

        long apart(Thing paper) {
            return sum(t -> Math.abs(h(t) - paper.row.get(t - 1)[0]));
        }
    }

    static int clamp(long value, int most) {
        return (int) Math.max(-most, Math.min(most, value));
    }

    static Track sail(Thing ship, int seed, Leg... legs) {
        Track track = new Track();
        track.ship = ship;
        int[] s = ship.n;
        track.rows.add(new int[] {s[8], s[9], 0, 0});
        int x = seed;
        int all = 0;
        for (Leg leg : legs) {
            int[] sums = new int[leg.hands().length];
            int[] saws = new int[leg.hands().length];
            for (int t = 1; t <= leg.seconds() && all < 400; t++) {
                int[] before = track.rows.get(all);
                all++;
                int wishes = 0;
                for (int k = 0; k < leg.hands().length; k++) {
                    int[] h = leg.hands()[k].n;
                    int second = t;
                    boolean star = leg.hands()[k].row.stream().anyMatch(r -> r[0] <= second && second <= r[1]);
                    int lag = star ? 0 : s[2] + (h[6] == 0 ? 0 : Math.min(5, t / h[6]));
                    int sees = track.h(Math.max(0, all - 1 - lag));
                    sees = sees / h[4] * h[4];
                    int goes = t == 1 ? 0 : sees - saws[k];
                    sums[k] = clamp(sums[k] + sees, 9999);
                    saws[k] = sees;
                    int want = clamp(-(h[0] * sees + h[1] * goes + h[2] * sums[k] / 100) / 100, s[3]);
                    if (Math.abs(sees) <= h[3] || h[8] == 1 && (long) goes * sees < 0) {
                        want = 0;
                    }
                    if (t <= h[5]) {
                        want = -want;
                    }
                    if (h[7] > 0) {
                        x = x * 1103515245 + 12345;
                        if ((x >>> 16) % 100 < h[7]) {
                            want = before[2];
                        }
                    }
                    wishes += want;
                }
                int goal = leg.hands().length == 0 ? 0 : wishes / leg.hands().length;
                int rudder = before[2] < goal ? Math.min(goal, before[2] + s[4]) : Math.max(goal, before[2] - s[4]);
                int sea = ship.row.get((all - 1) % ship.row.size())[0];
                int pace = before[1] - before[1] * s[1] / 100 + s[0] * rudder + s[6] + sea - s[7] * before[0] / 100;
                pace = clamp(pace, 9999);
                track.rows.add(new int[] {clamp(before[0] + pace, 18000), pace, rudder, saws.length == 0 ? 0 : saws[0]});
            }
        }
        return track;
    }

    private Track sail(Thing ship, Thing hand, int n) {
        return sail(ship, seedless, new Leg(n, hand));
    }

    private Track asked(int ship, int hand, int seed, int n) {
        Thing s = thing(0, ship);
        Thing h = thing(1, hand);
        if (s == null || h == null && hand != NONE) {
            return null;
        }
        return h == null ? sail(s, seed, new Leg(n)) : sail(s, seed, new Leg(n, h));
    }

    int second(int ship, int hand, int seed, int t, int what) {
        Track r = t < 0 || t > 400 ? null : asked(ship, hand, seed, t);
        return r == null || what < 0 || what > 3 ? MISSING : r.rows.get(t)[what];
    }

    long run(int ship, int hand, int seed, int n, int what) {
        Track r = n < 1 || n > 400 ? null : asked(ship, hand, seed, n);
        if (r == null) {
            return NO_LONG;
        }
        switch (what) {
            case 0: return r.cost();
            case 1: return r.sum(t -> Math.abs(r.h(t)));
            case 2: return r.sum(r::turned);
            case 3: return r.sum(t -> (long) r.h(t) * r.h(t) / 1000);
            case 4: return r.widest();
            case 5: return r.sum(r::h);
            case 6: return r.peaks().size() - 1;
            case 7: return r.grows() ? 1 : 0;
            case 8: return r.sum(t -> r.turned(t) == 0 ? 0 : 1);
            case 9:
                StringBuilder marks = new StringBuilder();
                for (int t = 1; t <= n; t++) {
                    marks.append(r.turned(t) == 0 ? 'w' : ' ');
                }
                return Arrays.stream(marks.toString().split(" ")).mapToInt(String::length).max().orElse(0);
            default: return NO_LONG;
        }
    }

    int peak(int ship, int hand, int seed, int n, int k) {
        Track r = n < 1 || n > 400 ? null : asked(ship, hand, seed, n);
        return r == null || k < 0 || k >= r.peaks().size() ? NONE : r.peaks().get(k);
    }

    // ---- trials

    private boolean lacks(int ship, int hand, int n) {
        return thing(0, ship) == null || thing(1, hand) == null || n < 1 || n > 200;
    }

    /** The first value, in the order told, with the least of something. */
    static int leastOf(int from, int to, IntToLongFunction of) {
        int best = from;
        for (int v = from; v <= to; v++) {
            if (of.applyAsLong(v) < of.applyAsLong(best)) {
                best = v;
            }
        }
        return best;
    }

    static int firstOf(int from, int to, IntPredicate good) {
        for (int v = from; from <= to ? v <= to : v >= to; v += from <= to ? 1 : -1) {
            if (good.test(v)) {
                return v;
            }
        }
        return NONE;
    }

    private long rule(Thing s, Thing h, int n, int a, int b, int what, Thing paper) {
        if (a < 0 || a > 20 || b < 0 || b > 20 || what < 0 || what > 2) {
            return NONE;
        }
        long[][] all = new long[a + 1][b + 1];
        for (int f = 0; f <= a; f++) {
            for (int q = 0; q <= b; q++) {
                Track r = sail(s, h.but(0, f).but(1, q), n);
                all[f][q] = paper == null ? r.cost() : r.apart(paper);
            }
        }
        int best = leastOf(0, (a + 1) * (b + 1) - 1, v -> all[v / (b + 1)][v % (b + 1)]);
        int far = best / (b + 1);
        int quick = best % (b + 1);
        return what == 0 ? far : what == 1 ? quick : all[far][quick];
    }

    long found(int ship, int hand, int n, int a, int b, int what) {
        return lacks(ship, hand, n) ? NONE : rule(thing(0, ship), thing(1, hand), n, a, b, what, null);
    }

    long iron(int ship, int hand, int n, boolean cost) {
        if (lacks(ship, hand, n)) {
            return NONE;
        }
        int been = leastOf(0, 20, v -> sail(thing(0, ship), thing(1, hand).but(2, v), n).cost());
        return cost ? sail(thing(0, ship), thing(1, hand).but(2, been), n).cost() : been;
    }

    int line(int ship, int hand, int n, int lag) {
        if (lacks(ship, hand, n) || lag < 0 || lag > 9) {
            return NONE;
        }
        return firstOf(99, 0, far -> !sail(thing(0, ship).but(2, lag), thing(1, hand).but(0, far), n).grows());
    }

    int lead(int ship, int hand, int n, int lag) {
        if (lacks(ship, hand, n) || lag < 0 || lag > 9) {
            return NONE;
        }
        return firstOf(0, 99, quick -> !sail(thing(0, ship).but(2, lag), thing(1, hand).but(1, quick), n).grows());
    }

    int alone(int ship, int n, int w) {
        if (thing(0, ship) == null || n < 1 || n > 200 || w < 0) {
            return NONE;
        }
        return firstOf(0, 99, trim -> sail(thing(0, ship).but(7, trim), seedless, new Leg(n)).widest() <= w);
    }

    int hard(int ship, int hand, int n, int w) {
        if (lacks(ship, hand, n) || w < 0) {
            return NONE;
        }
        return firstOf(9, 0, k -> sail(thing(0, ship).but(s -> s.row.replaceAll(r -> new int[] {k * r[0]})),
            thing(1, hand), n).widest() <= w);
    }

    int set(int ship, int hand, int n) {
        if (lacks(ship, hand, n)) {
            return MISSING;
        }
        Thing s = thing(0, ship);
        return leastOf(-50, 50, v -> {
            Track r = sail(s.but(6, s.n[6] + v), thing(1, hand), n);
            return Math.abs(r.sum(r::h));
        });
    }

    private long cost(int ship, Thing hand, int n) {
        return sail(thing(0, ship), hand, n).cost();
    }

    long worth(int ship, int hand, int n, int what) {
        if (lacks(ship, hand, n) || what < 0 || what > 2) {
            return NO_LONG;
        }
        Thing h = thing(1, hand);
        return what == 0 ? cost(ship, h.but(o -> o.row.clear()), n) - cost(ship, h, n)
            : what == 1 ? cost(ship, h.but(8, 1), n) - cost(ship, h.but(8, 0), n)
            : cost(ship, h.but(1, 0), n) - cost(ship, h, n);
    }

    long night(int ship, int hand, int n, int w) {
        if (lacks(ship, hand, n) || w < 0 || w > 999) {
            return NO_LONG;
        }
        return cost(ship, thing(1, hand).but(5, w), n) - cost(ship, thing(1, hand).but(5, 0), n);
    }

    int cloud(int ship, int hand, int n, int w) {
        if (lacks(ship, hand, n) || w < 0) {
            return NONE;
        }
        return firstOf(n, 0, s -> sail(thing(0, ship), thing(1, hand).but(h -> {
            h.row.clear();
            h.row.add(new int[] {1, s});
        }), n).widest() <= w);
    }

    int coarse(int ship, int hand, int n, int m) {
        if (lacks(ship, hand, n) || m < 1 || m > 50) {
            return NONE;
        }
        return firstOf(m, 1, p -> cost(ship, thing(1, hand).but(4, p), n) <= cost(ship, thing(1, hand).but(4, 1), n));
    }

    int weary(int ship, int hand, int n, int w, boolean steady) {
        if (lacks(ship, hand, n) || w < 0) {
            return NONE;
        }
        Track r = sail(thing(0, ship), thing(1, hand), n);
        if (!steady) {
            return firstOf(1, n, t -> Math.abs(r.h(t)) > w);
        }
        int latest = firstOf(n, 0, t -> t == 0 || Math.abs(r.h(t)) > w);
        return latest == n ? NONE : latest;
    }

    long tries(int ship, int hand, int n, boolean near) {
        if (lacks(ship, hand, n)) {
            return NONE;
        }
        IntToLongFunction cost = far -> cost(ship, thing(1, hand).but(0, far), n);
        int far = 16 * (1 + leastOf(0, 2, v -> cost.applyAsLong(16 * (v + 1))));
        int wide = far;
        far = far - 8 + 8 * leastOf(0, 2, v -> cost.applyAsLong(wide - 8 + 8 * v));
        int close = far;
        far = far - 4 + 4 * leastOf(0, 2, v -> cost.applyAsLong(close - 4 + 4 * v));
        return near ? cost.applyAsLong(far) - cost.applyAsLong(leastOf(0, 63, cost)) : far;
    }

    int learning(int ship, int hand, int n, int days) {
        if (lacks(ship, hand, n) || days < 0 || days > 30) {
            return NONE;
        }
        int far = thing(1, hand).n[0];
        for (int d = 0; d < days; d++) {
            int[] choice = {far, far - 1, far + 1};
            far = choice[leastOf(0, 2, v -> choice[v] < 0 || choice[v] > 99 ? Long.MAX_VALUE
                : cost(ship, thing(1, hand).but(0, choice[v]), n))];
        }
        return far;
    }

    long steers(int ship, int watch, int seed, int what) {
        Thing s = thing(0, ship);
        Thing w = thing(3, watch);
        if (s == null || w == null || w.row.stream().anyMatch(man -> thing(1, man[0]) == null)) {
            return MISSING;
        }
        Track r = sail(s, seed, w.row.stream().map(man -> new Leg(man[1], thing(1, man[0]))).toArray(Leg[]::new));
        switch (what) {
            case 0: return r.cost();
            case 1: return r.sum(t -> Math.abs(r.h(t)));
            case 2: return r.sum(r::turned);
            case 3: return r.widest();
            case 4: return r.n();
            default: return what >= 1000 && what <= 1000 + r.n() ? r.h(what - 1000) : MISSING;
        }
    }

    int change(int ship, int one, int other, int n) {
        if (lacks(ship, one, n) || lacks(ship, other, n)) {
            return NONE;
        }
        return leastOf(0, n, k -> sail(thing(0, ship), seedless, new Leg(k, thing(1, one)), new Leg(n - k, thing(1, other))).cost());
    }

    int order(int ship, int hands, int n, int k) {
        if (hands <= 0 || hands >= 16) {
            return NONE;
        }
        List<Integer> who = new ArrayList<>();
        for (int i = 0; i < 4; i++) {
            if ((hands >> i & 1) == 1) {
                if (lacks(ship, i, n)) {
                    return NONE;
                }
                who.add(i);
            }
        }
        if (n < who.size() || k < 0 || k >= who.size()) {
            return NONE;
        }
        List<List<Integer>> orders = new ArrayList<>();
        orders(new ArrayList<>(), who, orders);
        int best = leastOf(0, orders.size() - 1, v -> {
            Leg[] legs = new Leg[who.size()];
            for (int i = 0; i < legs.length; i++) {
                int each = n / legs.length;
                legs[i] = new Leg(i < legs.length - 1 ? each : each + n % legs.length, thing(1, orders.get(v).get(i)));
            }
            return sail(thing(0, ship), seedless, legs).cost();
        });
        return orders.get(best).get(k);
    }

    private static void orders(List<Integer> begun, List<Integer> who, List<List<Integer>> all) {
        if (begun.size() == who.size()) {
            all.add(new ArrayList<>(begun));
        }
        for (int hand : who) {
            if (!begun.contains(hand)) {
                begun.add(hand);
                orders(begun, who, all);
                begun.remove(begun.size() - 1);
            }
        }
    }

    long both(int ship, int one, int other, int n, boolean widest) {
        if (lacks(ship, one, n) || lacks(ship, other, n)) {
            return NONE;
        }
        Track r = sail(thing(0, ship), seedless, new Leg(n, thing(1, one), thing(1, other)));
        return widest ? r.widest() : r.cost();
    }

    // ---- PAPERS

    private int size(int paper) {
        return thing(2, paper) == null ? 0 : thing(2, paper).row.size();
    }

    int apart(int ship, int hand, int paper, boolean same) {
        if (lacks(ship, hand, size(paper))) {
            return NONE;
        }
        Thing p = thing(2, paper);
        Track r = sail(thing(0, ship), thing(1, hand), p.row.size());
        if (!same) {
            return (int) r.apart(p);
        }
        int other = firstOf(0, p.row.size() - 1, k -> r.h(k + 1) != p.row.get(k)[0]);
        return other == NONE ? p.row.size() : other;
    }

    int whose(int ship, int paper) {
        int hands = now.things.get(1).size();
        if (thing(0, ship) == null || thing(2, paper) == null || hands == 0) {
            return NONE;
        }
        return leastOf(0, hands - 1, h -> apart(ship, h, paper, false));
    }

    int tells(int ship, int hand, int paper) {
        if (lacks(ship, hand, size(paper))) {
            return NONE;
        }
        return leastOf(0, 99, turn -> sail(thing(0, ship).but(0, turn), thing(1, hand), size(paper)).apart(thing(2, paper)));
    }

    long slipped(int ship, int hand, int seed, int w, int n, boolean luck) {
        if (lacks(ship, hand, n) || w < 1 || w > 20) {
            return MISSING;
        }
        long[] costs = new long[w];
        for (int k = 0; k < w; k++) {
            costs[k] = sail(thing(0, ship), seed + k, new Leg(n, thing(1, hand))).cost();
        }
        return luck ? seed + leastOf(0, w - 1, k -> costs[k]) : Arrays.stream(costs).sum();
    }

    int bound(int ship, int hand, int n, int w, int what) {
        if (lacks(ship, hand, n) || w < 0 || what < 0 || what > 2) {
            return NONE;
        }
        Thing s = thing(0, ship);
        Thing h = thing(1, hand);
        return what == 0 ? firstOf(99, 0, dead -> sail(s, h.but(3, dead), n).widest() <= w)
            : firstOf(1, 35, v -> sail(s.but(what + 2, v), h, n).widest() <= w);
    }

    int first(int ship, int hand, int n, int what) {
        if (lacks(ship, hand, n) || what < 0 || what > 2) {
            return NONE;
        }
        Track r = sail(thing(0, ship), thing(1, hand), n);
        if (what == 0) {
            return firstOf(1, n, t -> Math.abs(r.h(t)) >= 9000);
        }
        if (what == 1) {
            return leastOf(1, n, t -> -r.costAt(t));
        }
        IntUnaryOperator come = till -> (int) r.sum(t -> t <= till ? r.costAt(t) : 0);
        return firstOf(1, n, t -> come.applyAsInt(t) >= r.cost() - come.applyAsInt(t));
    }

    int better(int ship, int one, int other, int n) {
        if (lacks(ship, one, n) || lacks(ship, other, n)) {
            return NONE;
        }
        int sign = Long.compare(cost(ship, thing(1, one), n), cost(ship, thing(1, other), n));
        return sign < 0 ? 0 : sign > 0 ? 1 : 2;
    }

    int reads(int ship, int hand, int paper, int a, int b, int what) {
        if (lacks(ship, hand, size(paper))) {
            return NONE;
        }
        return (int) rule(thing(0, ship), thing(1, hand), size(paper), a, b, what, thing(2, paper));
    }

    int parted(int ship, int one, int other, int paper) {
        int n = size(paper);
        if (lacks(ship, one, n) || lacks(ship, other, n)) {
            return NONE;
        }
        return leastOf(0, n, k -> sail(thing(0, ship), seedless, new Leg(k, thing(1, one)), new Leg(n - k, thing(1, other)))
            .apart(thing(2, paper)));
    }

    int count(int sort) {
        return sort < 0 || sort > 3 ? -2 : now.things.get(sort).size();
    }

    boolean image(int k) {
        if (k < 0 || k > 2) {
            return false;
        }
        images[k] = now.copy();
        return true;
    }

    boolean again(int k) {
        if (k < 0 || k > 2 || images[k] == null) {
            return false;
        }
        now = images[k].copy();
        return true;
    }
}
