/** A hand and a card: what ../shared/DOC.md promises, in the order of its promises. */
public final class HelmHand {
    public static final int NONE = -1;

    // What the document answers where NONE could be an answer of its own.
    private static final int MISSING = -100000;
    private static final long NO_LONG = -9223372036854775808L;
    private static final int REFUSED = -2;

    // Above whatever can be reckoned, so that the first trial is always the best one yet.
    private static final long ENDLESS = 9223372036854775807L;
    private static final int ENDLESS_INT = 2147483647;

    private static final int TAPE_BYTES = 600;
    private static final int LONGEST_RUN = 400;
    private static final int LONGEST_TRIAL = 200;
    private static final int WIDEST_RULE = 20;
    private static final int IMAGES = 3;

    private static final int SHIP_SORT = 0;
    private static final int HAND_SORT = 1;
    private static final int PAPER_SORT = 2;
    private static final int WATCH_SORT = 3;
    private static final int MOST_SHIPS = 2;
    private static final int MOST_HANDS = 4;
    private static final int MOST_PAPERS = 2;
    private static final int MOST_WATCHES = 2;
    private static final int MOST_SEAS = 12;
    private static final int MOST_STARS = 4;
    private static final int MOST_HEADINGS = 60;
    private static final int MOST_MEN = 8;

    // Of a SHIP and of a HAND: the numbers by which ship() and hand() ask.
    private static final int TURN = 0;
    private static final int CALM = 1;
    private static final int LAG = 2;
    private static final int MOST = 3;
    private static final int GEAR = 4;
    private static final int RUB = 5;
    private static final int WIND = 6;
    private static final int TRIM = 7;
    private static final int HEADING = 8;
    private static final int PACE = 9;
    private static final int SEA_COUNT = 10;
    private static final int FAR = 0;
    private static final int QUICK = 1;
    private static final int BEEN = 2;
    private static final int DEAD = 3;
    private static final int POINT = 4;
    private static final int WRONG = 5;
    private static final int TIRED = 6;
    private static final int SLIPS = 7;
    private static final int EASY = 8;
    private static final int STAR_COUNT = 9;

    private static final int[] SHIP_LEAST = {0, 0, 0, 1, 1, 0, -99, -99, -999, -999};
    private static final int[] SHIP_MOST = {99, 100, 9, 35, 35, 99, 99, 99, 999, 999};
    private static final int[] HAND_LEAST = {0, 0, 0, 0, 1, 0, 0, 0};
    private static final int[] HAND_MOST = {99, 99, 99, 999, 999, 999, 999, 100};

    private final Book book = new Book();
    private final Book[] images = new Book[IMAGES];
    private final boolean[] imaged = new boolean[IMAGES];
    private final Reader reader = new Reader();
    private final Wheel wheel = new Wheel();
    // Trials change these instead of what is told, so that no call makes a SHIP or a HAND.
    private final Ship trialShip = new Ship();
    private final Hand trialHand = new Hand();

    public HelmHand() {
        for (int k = 0; k < IMAGES; k++) {
            images[k] = new Book();
        }
    }

    // ---- the tape and what it tells

    public int feed(int a, int b, int c, int d, int e) {
        Tape tape = book.tape;
        if (tape.length > TAPE_BYTES - 20) {
            return NONE;
        }
        tape.addWord(a);
        tape.addWord(b);
        tape.addWord(c);
        tape.addWord(d);
        tape.addWord(e);
        return tape.length;
    }

    public int end(int n) {
        if (n < 0 || n > book.tape.length) {
            return NONE;
        }
        book.tape.length = n;
        return n;
    }

    public int text(int sort, int at) {
        int place = book.placeFor(sort, at);
        if (place == REFUSED) {
            book.tape.length = 0;
            book.fault = 0;
            book.faultPlace = NONE;
            return REFUSED;
        }
        reader.take(sort, book.tape);
        book.tape.length = 0;
        book.fault = reader.fault;
        book.faultPlace = reader.faultPlace;
        if (reader.fault != 0) {
            return NONE;
        }
        book.keep(sort, place, reader);
        return place;
    }

    public int fault(int what) {
        return what == 0 ? book.fault : what == 1 ? book.faultPlace : NONE;
    }

    public int ship(int ship, int what) {
        Ship asked = book.shipAt(ship);
        return asked == null ? MISSING : asked.look(what);
    }

    public int hand(int hand, int what) {
        Hand asked = book.handAt(hand);
        return asked == null ? NONE : asked.look(what);
    }

    public int paper(int paper, int k) {
        Paper asked = book.paperAt(paper);
        if (asked == null || k < NONE || k >= asked.size) {
            return MISSING;
        }
        return k == NONE ? asked.size : at(asked.headings, k);
    }

    public int watch(int watch, int k, int what) {
        Watch asked = book.watchAt(watch);
        if (asked == null || k < NONE || k >= asked.men) {
            return NONE;
        }
        if (k == NONE) {
            return what == 0 ? asked.men : NONE;
        }
        return what == 0 ? at(asked.hands, k) : what == 1 ? at(asked.seconds, k) : NONE;
    }

    // ---- a RUN

    public int second(int ship, int hand, int seed, int t, int what) {
        if (t < 0 || t > LONGEST_RUN || !sailed(ship, hand, seed, t)) {
            return MISSING;
        }
        switch (what) {
            case 0: return at(wheel.headings, t);
            case 1: return at(wheel.paces, t);
            case 2: return at(wheel.rudders, t);
            case 3: return at(wheel.saws, t);
            default: return MISSING;
        }
    }

    public long run(int ship, int hand, int seed, int n, int what) {
        if (n < 1 || n > LONGEST_RUN || !sailed(ship, hand, seed, n)) {
            return NO_LONG;
        }
        return wheel.tally(what);
    }

    public int peak(int ship, int hand, int seed, int n, int k) {
        if (n < 1 || n > LONGEST_RUN || !sailed(ship, hand, seed, n)) {
            return NONE;
        }
        return wheel.peakAt(k);
    }

    // ---- trials

    public long found(int ship, int hand, int n, int a, int b, int what) {
        if (!ready(ship, hand, n)) {
            return NONE;
        }
        return leastRule(null, n, a, b, what);
    }

    public long iron(int ship, int hand, int n, boolean cost) {
        if (!ready(ship, hand, n)) {
            return NONE;
        }
        int best = NONE;
        long least = ENDLESS;
        for (int been = 0; been <= WIDEST_RULE; been++) {
            long now = costWith(BEEN, been, n);
            if (now < least) {
                least = now;
                best = been;
            }
        }
        return cost ? least : best;
    }

    public int line(int ship, int hand, int n, int lag) {
        if (!lagged(ship, hand, n, lag)) {
            return NONE;
        }
        for (int far = 99; far >= 0; far--) {
            if (!growsWith(FAR, far, n)) {
                return far;
            }
        }
        return NONE;
    }

    public int alone(int ship, int n, int w) {
        Ship sailing = book.shipAt(ship);
        if (sailing == null || !isTrial(n) || w < 0) {
            return NONE;
        }
        trialShip.copy(sailing);
        for (int trim = 0; trim <= 99; trim++) {
            trialShip.write(TRIM, trim);
            wheel.sail(trialShip, null, 0, n);
            if (wheel.widest() <= w) {
                return trim;
            }
        }
        return NONE;
    }

    public int hard(int ship, int hand, int n, int w) {
        Ship sailing = book.shipAt(ship);
        if (sailing == null || !ready(ship, hand, n) || w < 0) {
            return NONE;
        }
        for (int k = 9; k >= 0; k--) {
            trialShip.takeSeas(sailing, k);
            if (trialWidest(n) <= w) {
                return k;
            }
        }
        return NONE;
    }

    public int set(int ship, int hand, int n) {
        if (!ready(ship, hand, n)) {
            return MISSING;
        }
        int wind = trialShip.wind;
        int best = MISSING;
        long nearest = ENDLESS;
        for (int more = -50; more <= 50; more++) {
            trialShip.wind = wind + more;
            wheel.sail(trialShip, trialHand, 0, n);
            long off = Math.abs(wheel.drift());
            if (off < nearest) {
                nearest = off;
                best = more;
            }
        }
        return best;
    }

    public long worth(int ship, int hand, int n, int what) {
        if (!ready(ship, hand, n)) {
            return NO_LONG;
        }
        long asHeIs = trialCost(n);
        switch (what) {
            case 0:
                trialHand.stars = 0;
                return trialCost(n) - asHeIs;
            case 1:
                return costWith(EASY, 1, n) - costWith(EASY, 0, n);
            case 2:
                return costWith(QUICK, 0, n) - asHeIs;
            default:
                return NO_LONG;
        }
    }

    public long night(int ship, int hand, int n, int w) {
        if (!ready(ship, hand, n) || w < 0 || w > 999) {
            return NO_LONG;
        }
        return costWith(WRONG, w, n) - costWith(WRONG, 0, n);
    }

    public int cloud(int ship, int hand, int n, int w) {
        if (!ready(ship, hand, n) || w < 0) {
            return NONE;
        }
        for (int till = n; till >= 0; till--) {
            trialHand.stars = 0;
            trialHand.addStar(1, till);
            if (trialWidest(n) <= w) {
                return till;
            }
        }
        return NONE;
    }

    public int coarse(int ship, int hand, int n, int m) {
        if (!ready(ship, hand, n) || m < 1 || m > 50) {
            return NONE;
        }
        long fine = costWith(POINT, 1, n);
        int greatest = 1;
        for (int point = 2; point <= m; point++) {
            if (costWith(POINT, point, n) <= fine) {
                greatest = point;
            }
        }
        return greatest;
    }

    public int weary(int ship, int hand, int n, int w, boolean steady) {
        if (!ready(ship, hand, n) || w < 0) {
            return NONE;
        }
        wheel.sail(trialShip, trialHand, 0, n);
        if (!steady) {
            return wheel.earliestBeyond(w);
        }
        int latest = wheel.latestBeyond(w);
        return latest == n ? NONE : latest;
    }

    public long tries(int ship, int hand, int n, boolean near) {
        if (!ready(ship, hand, n)) {
            return NONE;
        }
        int far = leastOfThree(32, 16, n);
        far = leastOfThree(far, 8, n);
        far = leastOfThree(far, 4, n);
        if (!near) {
            return far;
        }
        long least = ENDLESS;
        for (int other = 0; other <= 63; other++) {
            least = Math.min(least, costWith(FAR, other, n));
        }
        return costWith(FAR, far, n) - least;
    }

    public int learning(int ship, int hand, int n, int days) {
        if (!ready(ship, hand, n) || days < 0 || days > 30) {
            return NONE;
        }
        int far = trialHand.far;
        for (int day = 1; day <= days; day++) {
            far = learnt(far, n);
        }
        return far;
    }

    // ---- WATCHES, several HANDS

    public long steers(int ship, int watch, int seed, int what) {
        Ship sailing = book.shipAt(ship);
        Watch men = book.watchAt(watch);
        if (sailing == null || men == null || !isManned(men)) {
            return MISSING;
        }
        wheel.begin(sailing, seed);
        for (int k = 0; k < men.men; k++) {
            wheel.steer(book.handAt(at(men.hands, k)), at(men.seconds, k));
        }
        switch (what) {
            case 0: return wheel.cost();
            case 1: return wheel.off();
            case 2: return wheel.wear();
            case 3: return wheel.widest();
            case 4: return wheel.last;
            default:
                boolean steered = what >= 1000 && what - 1000 <= wheel.last;
                return steered ? at(wheel.headings, what - 1000) : MISSING;
        }
    }

    public int change(int ship, int one, int other, int n) {
        Ship sailing = book.shipAt(ship);
        Hand before = book.handAt(one);
        Hand behind = book.handAt(other);
        if (sailing == null || before == null || behind == null || !isTrial(n)) {
            return NONE;
        }
        int best = NONE;
        long least = ENDLESS;
        for (int till = 0; till <= n; till++) {
            sailChanged(sailing, before, behind, till, n);
            if (wheel.cost() < least) {
                least = wheel.cost();
                best = till;
            }
        }
        return best;
    }

    public int order(int ship, int hands, int n, int k) {
        Ship sailing = book.shipAt(ship);
        int men = Integer.bitCount(hands);
        boolean known = hands > 0 && hands < 1 << book.hands;
        if (sailing == null || !known || !isTrial(n) || n < men || k < 0 || k >= men) {
            return NONE;
        }
        int best = NONE;
        long least = ENDLESS;
        // Two bits a HAND, the first one highest: so rows go up as the document orders them.
        for (int row = 0; row < 1 << 2 * men; row++) {
            if (handsOf(row, men) == hands) {
                long now = costInTurns(sailing, row, men, n);
                if (now < least) {
                    least = now;
                    best = row;
                }
            }
        }
        return best == NONE ? NONE : handIn(best, men, k);
    }

    public long both(int ship, int one, int other, int n, boolean widest) {
        Ship sailing = book.shipAt(ship);
        Hand left = book.handAt(one);
        Hand right = book.handAt(other);
        if (sailing == null || left == null || right == null || !isTrial(n)) {
            return NONE;
        }
        wheel.begin(sailing, 0);
        wheel.steerTogether(left, right, n);
        return widest ? wheel.widest() : wheel.cost();
    }

    // ---- PAPERS

    public int apart(int ship, int hand, int paper, boolean same) {
        Paper told = book.paperAt(paper);
        if (told == null || !ready(ship, hand, told.size)) {
            return NONE;
        }
        wheel.sail(trialShip, trialHand, 0, told.size);
        return same ? wheel.alikeTo(told) : wheel.apartFrom(told);
    }

    public int whose(int ship, int paper) {
        Paper told = book.paperAt(paper);
        if (told == null) {
            return NONE;
        }
        int best = NONE;
        int least = ENDLESS_INT;
        for (int hand = 0; hand < book.hands; hand++) {
            if (ready(ship, hand, told.size)) {
                int now = trialApart(told);
                if (now < least) {
                    least = now;
                    best = hand;
                }
            }
        }
        return best;
    }

    public int tells(int ship, int hand, int paper) {
        Paper told = book.paperAt(paper);
        if (told == null || !ready(ship, hand, told.size)) {
            return NONE;
        }
        int best = NONE;
        int least = ENDLESS_INT;
        for (int turn = 0; turn <= 99; turn++) {
            trialShip.write(TURN, turn);
            int now = trialApart(told);
            if (now < least) {
                least = now;
                best = turn;
            }
        }
        return best;
    }

    public long slipped(int ship, int hand, int seed, int w, int n, boolean luck) {
        if (!ready(ship, hand, n) || w < 1 || w > 20) {
            return MISSING;
        }
        int lucky = seed;
        long least = ENDLESS;
        long together = 0;
        for (int k = 0; k < w; k++) {
            wheel.sail(trialShip, trialHand, seed + k, n);
            long now = wheel.cost();
            together += now;
            if (now < least) {
                least = now;
                lucky = seed + k;
            }
        }
        return luck ? lucky : together;
    }

    // ---- more trials

    public int lead(int ship, int hand, int n, int lag) {
        if (!lagged(ship, hand, n, lag)) {
            return NONE;
        }
        for (int quick = 0; quick <= 99; quick++) {
            if (!growsWith(QUICK, quick, n)) {
                return quick;
            }
        }
        return NONE;
    }

    public int bound(int ship, int hand, int n, int w, int what) {
        if (!ready(ship, hand, n) || w < 0) {
            return NONE;
        }
        switch (what) {
            case 0: return deadest(n, w);
            case 1: return leastGear(MOST, n, w);
            case 2: return leastGear(GEAR, n, w);
            default: return NONE;
        }
    }

    public int first(int ship, int hand, int n, int what) {
        if (!ready(ship, hand, n)) {
            return NONE;
        }
        wheel.sail(trialShip, trialHand, 0, n);
        switch (what) {
            case 0: return wheel.earliestBeyond(8999);
            case 1: return wheel.dearest();
            case 2: return wheel.halfway();
            default: return NONE;
        }
    }

    public int better(int ship, int one, int other, int n) {
        if (!ready(ship, one, n)) {
            return NONE;
        }
        long first = trialCost(n);
        if (!ready(ship, other, n)) {
            return NONE;
        }
        long second = trialCost(n);
        return first < second ? 0 : first > second ? 1 : 2;
    }

    public int reads(int ship, int hand, int paper, int a, int b, int what) {
        Paper told = book.paperAt(paper);
        if (told == null || !ready(ship, hand, told.size)) {
            return NONE;
        }
        return (int) leastRule(told, told.size, a, b, what);
    }

    public int parted(int ship, int one, int other, int paper) {
        Ship sailing = book.shipAt(ship);
        Hand before = book.handAt(one);
        Hand behind = book.handAt(other);
        Paper told = book.paperAt(paper);
        if (sailing == null || before == null || behind == null || told == null) {
            return NONE;
        }
        int best = NONE;
        int least = ENDLESS_INT;
        for (int till = 0; till <= told.size; till++) {
            sailChanged(sailing, before, behind, till, told.size);
            int now = wheel.apartFrom(told);
            if (now < least) {
                least = now;
                best = till;
            }
        }
        return best;
    }

    // ---- the whole of it

    public int count(int sort) {
        return book.countOf(sort);
    }

    public boolean image(int k) {
        if (k < 0 || k >= IMAGES || images[k] == null) {
            return false;
        }
        images[k].copy(book);
        imaged[k] = true;
        return true;
    }

    public boolean again(int k) {
        if (k < 0 || k >= IMAGES || !imaged[k]) {
            return false;
        }
        book.copy(images[k]);
        return true;
    }

    // ---- help for the calls

    private static boolean isTrial(int n) {
        return n >= 1 && n <= LONGEST_TRIAL;
    }

    /** The RUN of n seconds, hand NONE being one without a HAND; false: there is none such. */
    private boolean sailed(int ship, int hand, int seed, int n) {
        Ship sailing = book.shipAt(ship);
        Hand steering = book.handAt(hand);
        if (sailing == null || (steering == null && hand != NONE)) {
            return false;
        }
        wheel.sail(sailing, steering, seed, n);
        return true;
    }

    /** Whether a trial of n seconds can be made; if so, its SHIP and HAND are as told. */
    private boolean ready(int ship, int hand, int n) {
        Ship sailing = book.shipAt(ship);
        Hand steering = book.handAt(hand);
        if (sailing == null || steering == null || !isTrial(n)) {
            return false;
        }
        trialShip.copy(sailing);
        trialHand.copy(steering);
        return true;
    }

    private boolean lagged(int ship, int hand, int n, int lag) {
        if (lag < 0 || lag > 9 || !ready(ship, hand, n)) {
            return false;
        }
        trialShip.write(LAG, lag);
        return true;
    }

    private long trialCost(int n) {
        wheel.sail(trialShip, trialHand, 0, n);
        return wheel.cost();
    }

    private long trialWidest(int n) {
        wheel.sail(trialShip, trialHand, 0, n);
        return wheel.widest();
    }

    private int trialApart(Paper told) {
        wheel.sail(trialShip, trialHand, 0, told == null ? 0 : told.size);
        return wheel.apartFrom(told);
    }

    private long costWith(int what, int value, int n) {
        trialHand.write(what, value);
        wheel.sail(trialShip, trialHand, 0, n);
        return wheel.cost();
    }

    private boolean growsWith(int what, int value, int n) {
        trialHand.write(what, value);
        wheel.sail(trialShip, trialHand, 0, n);
        return wheel.grows();
    }

    /** FOUND, or READS where there is a PAPER. */
    private long leastRule(Paper told, int n, int a, int b, int what) {
        if (a < 0 || a > WIDEST_RULE || b < 0 || b > WIDEST_RULE || what < 0 || what > 2) {
            return NONE;
        }
        int bestFar = 0;
        int bestQuick = 0;
        long least = ENDLESS;
        for (int far = 0; far <= a; far++) {
            for (int quick = 0; quick <= b; quick++) {
                trialHand.write(FAR, far);
                trialHand.write(QUICK, quick);
                long now = told == null ? trialCost(n) : trialApart(told);
                if (now < least) {
                    least = now;
                    bestFar = far;
                    bestQuick = quick;
                }
            }
        }
        return what == 0 ? bestFar : what == 1 ? bestQuick : least;
    }

    private int leastOfThree(int middle, int step, int n) {
        int best = middle;
        long least = ENDLESS;
        for (int k = -1; k <= 1; k++) {
            long now = costWith(FAR, middle + k * step, n);
            if (now < least) {
                least = now;
                best = middle + k * step;
            }
        }
        return best;
    }

    private int learnt(int far, int n) {
        int best = far;
        long least = costWith(FAR, far, n);
        if (far > 0) {
            long less = costWith(FAR, far - 1, n);
            if (less < least) {
                least = less;
                best = far - 1;
            }
        }
        if (far < 99 && costWith(FAR, far + 1, n) < least) {
            best = far + 1;
        }
        return best;
    }

    private int deadest(int n, int w) {
        for (int dead = 99; dead >= 0; dead--) {
            trialHand.write(DEAD, dead);
            if (trialWidest(n) <= w) {
                return dead;
            }
        }
        return NONE;
    }

    private int leastGear(int what, int n, int w) {
        for (int value = 1; value <= 35; value++) {
            trialShip.write(what, value);
            if (trialWidest(n) <= w) {
                return value;
            }
        }
        return NONE;
    }

    private boolean isManned(Watch men) {
        if (men == null) {
            return false;
        }
        for (int k = 0; k < men.men; k++) {
            if (book.handAt(at(men.hands, k)) == null) {
                return false;
            }
        }
        return true;
    }

    private void sailChanged(Ship sailing, Hand before, Hand behind, int till, int n) {
        wheel.begin(sailing, 0);
        wheel.steer(before, till);
        wheel.steer(behind, n - till);
    }

    private static int handIn(int row, int men, int k) {
        return (row >>> 2 * (men - 1 - k)) & 3;
    }

    private static int handsOf(int row, int men) {
        int hands = 0;
        for (int k = 0; k < men; k++) {
            hands |= 1 << handIn(row, men, k);
        }
        return hands;
    }

    private long costInTurns(Ship sailing, int row, int men, int n) {
        if (men < 1) {
            return ENDLESS;
        }
        int each = n / men;
        wheel.begin(sailing, 0);
        for (int k = 0; k < men; k++) {
            int seconds = k == men - 1 ? n - each * k : each;
            wheel.steer(book.handAt(handIn(row, men, k)), seconds);
        }
        return wheel.cost();
    }

    // ---- rows that are never read or written outside themselves

    private static int at(int[] row, int i) {
        return row != null && i >= 0 && i < row.length ? row[i] : 0;
    }

    private static void put(int[] row, int i, int value) {
        if (row != null && i >= 0 && i < row.length) {
            row[i] = value;
        }
    }

    private static void copyRow(int[] from, int[] to) {
        if (from != null && to != null) {
            System.arraycopy(from, 0, to, 0, Math.min(from.length, to.length));
        }
    }

    private static int within(int value, int most) {
        return Math.max(-most, Math.min(most, value));
    }

    /** The bytes that are fed and not yet taken. */
    private static final class Tape {
        final byte[] bytes = new byte[TAPE_BYTES];
        int length;

        void addWord(int word) {
            addByte(word >>> 24);
            addByte(word >>> 16);
            addByte(word >>> 8);
            addByte(word);
        }

        private void addByte(int value) {
            if (length >= 0 && length < bytes.length) {
                bytes[length] = (byte) value;
                length++;
            }
        }

        /** NONE where the tape has no byte. */
        int byteAt(int i) {
            return i >= 0 && i < length && i < bytes.length ? bytes[i] & 255 : NONE;
        }

        void copy(Tape other) {
            if (other != null) {
                System.arraycopy(other.bytes, 0, bytes, 0, Math.min(other.bytes.length, bytes.length));
                length = other.length;
            }
        }
    }

    private static final class Ship {
        int turn;
        int calm;
        int lag;
        int most;
        int gear;
        int rub;
        int wind;
        int trim;
        int heading;
        int pace;
        int seaCount;
        final int[] seas = new int[MOST_SEAS];

        void clear() {
            turn = 5;
            calm = 10;
            lag = 0;
            most = 35;
            gear = 35;
            rub = 0;
            wind = 0;
            trim = 0;
            heading = 0;
            pace = 0;
            seaCount = 1;
            put(seas, 0, 0);
        }

        void copy(Ship other) {
            if (other == null) {
                return;
            }
            for (int what = TURN; what <= PACE; what++) {
                write(what, other.look(what));
            }
            seaCount = other.seaCount;
            copyRow(other.seas, seas);
        }

        void write(int what, int value) {
            switch (what) {
                case TURN: turn = value; break;
                case CALM: calm = value; break;
                case LAG: lag = value; break;
                case MOST: most = value; break;
                case GEAR: gear = value; break;
                case RUB: rub = value; break;
                case WIND: wind = value; break;
                case TRIM: trim = value; break;
                case HEADING: heading = value; break;
                case PACE: pace = value; break;
                default: break;
            }
        }

        int look(int what) {
            switch (what) {
                case TURN: return turn;
                case CALM: return calm;
                case LAG: return lag;
                case MOST: return most;
                case GEAR: return gear;
                case RUB: return rub;
                case WIND: return wind;
                case TRIM: return trim;
                case HEADING: return heading;
                case PACE: return pace;
                case SEA_COUNT: return seaCount;
                default:
                    return what >= 20 && what < 20 + seaCount ? at(seas, what - 20) : MISSING;
            }
        }

        /** False where the row is full already. */
        boolean addSea(int sea) {
            if (seaCount >= MOST_SEAS) {
                return false;
            }
            put(seas, seaCount, sea);
            seaCount++;
            return true;
        }

        void takeSeas(Ship other, int times) {
            if (other == null) {
                return;
            }
            seaCount = other.seaCount;
            for (int k = 0; k < seaCount; k++) {
                put(seas, k, times * at(other.seas, k));
            }
        }

        int seaOf(int t) {
            return seaCount > 0 ? at(seas, (t - 1) % seaCount) : 0;
        }
    }

    private static final class Hand {
        int far;
        int quick;
        int been;
        int dead;
        int point;
        int wrong;
        int tired;
        int slips;
        boolean easy;
        int stars;
        final int[] from = new int[MOST_STARS];
        final int[] till = new int[MOST_STARS];

        void clear() {
            for (int what = FAR; what <= EASY; what++) {
                write(what, 0);
            }
            point = 1;
            stars = 0;
        }

        void copy(Hand other) {
            if (other == null) {
                return;
            }
            for (int what = FAR; what <= EASY; what++) {
                write(what, other.look(what));
            }
            stars = other.stars;
            copyRow(other.from, from);
            copyRow(other.till, till);
        }

        void write(int what, int value) {
            switch (what) {
                case FAR: far = value; break;
                case QUICK: quick = value; break;
                case BEEN: been = value; break;
                case DEAD: dead = value; break;
                case POINT: point = value; break;
                case WRONG: wrong = value; break;
                case TIRED: tired = value; break;
                case SLIPS: slips = value; break;
                case EASY: easy = value != 0; break;
                default: break;
            }
        }

        int look(int what) {
            switch (what) {
                case FAR: return far;
                case QUICK: return quick;
                case BEEN: return been;
                case DEAD: return dead;
                case POINT: return point;
                case WRONG: return wrong;
                case TIRED: return tired;
                case SLIPS: return slips;
                case EASY: return easy ? 1 : 0;
                case STAR_COUNT: return stars;
                default: return lookStar(what);
            }
        }

        private int lookStar(int what) {
            if (what >= 10 && what < 10 + stars) {
                return at(from, what - 10);
            }
            return what >= 20 && what < 20 + stars ? at(till, what - 20) : NONE;
        }

        /** False where he has as many STARS as may be. */
        boolean addStar(int first, int last) {
            if (stars >= MOST_STARS) {
                return false;
            }
            put(from, stars, first);
            put(till, stars, last);
            stars++;
            return true;
        }

        boolean hasStarAt(int t) {
            for (int k = 0; k < stars; k++) {
                if (t >= at(from, k) && t <= at(till, k)) {
                    return true;
                }
            }
            return false;
        }

        int slowBy(int t) {
            return tired > 0 ? Math.min(5, t / tired) : 0;
        }

        int pointed(int heading) {
            return point > 0 ? heading - heading % point : heading;
        }

        /** What he wants by his rule alone: not kept within MOST, not turned about, no slip. */
        int ruled(int sees, int goes, int sum) {
            if (sees >= -dead && sees <= dead) {
                return 0;
            }
            boolean coming = (goes > 0 && sees < 0) || (goes < 0 && sees > 0);
            if (easy && coming) {
                return 0;
            }
            return (-far * sees - quick * goes - been * sum / 100) / 100;
        }
    }

    private static final class Paper {
        final int[] headings = new int[MOST_HEADINGS];
        int size;

        void clear() {
            size = 0;
        }

        void copy(Paper other) {
            if (other != null) {
                size = other.size;
                copyRow(other.headings, headings);
            }
        }

        /** False where the row is full already. */
        boolean addHeading(int heading) {
            if (size >= MOST_HEADINGS) {
                return false;
            }
            put(headings, size, heading);
            size++;
            return true;
        }
    }

    private static final class Watch {
        final int[] hands = new int[MOST_MEN];
        final int[] seconds = new int[MOST_MEN];
        int men;

        void clear() {
            men = 0;
        }

        void copy(Watch other) {
            if (other != null) {
                men = other.men;
                copyRow(other.hands, hands);
                copyRow(other.seconds, seconds);
            }
        }

        /** False where there are as many MEN as may be. */
        boolean addMan(int hand, int time) {
            if (men >= MOST_MEN) {
                return false;
            }
            put(hands, men, hand);
            put(seconds, men, time);
            men++;
            return true;
        }
    }

    /** All that is told: what an image keeps. */
    private static final class Book {
        final Tape tape = new Tape();
        int fault;
        int faultPlace = NONE;
        int ships;
        int hands;
        int papers;
        int watches;
        private final Ship[] shipRow = new Ship[MOST_SHIPS];
        private final Hand[] handRow = new Hand[MOST_HANDS];
        private final Paper[] paperRow = new Paper[MOST_PAPERS];
        private final Watch[] watchRow = new Watch[MOST_WATCHES];

        Book() {
            for (int i = 0; i < shipRow.length; i++) {
                shipRow[i] = new Ship();
            }
            for (int i = 0; i < handRow.length; i++) {
                handRow[i] = new Hand();
            }
            for (int i = 0; i < paperRow.length; i++) {
                paperRow[i] = new Paper();
            }
            for (int i = 0; i < watchRow.length; i++) {
                watchRow[i] = new Watch();
            }
        }

        Ship shipAt(int i) {
            return i >= 0 && i < ships && i < shipRow.length ? shipRow[i] : null;
        }

        Hand handAt(int i) {
            return i >= 0 && i < hands && i < handRow.length ? handRow[i] : null;
        }

        Paper paperAt(int i) {
            return i >= 0 && i < papers && i < paperRow.length ? paperRow[i] : null;
        }

        Watch watchAt(int i) {
            return i >= 0 && i < watches && i < watchRow.length ? watchRow[i] : null;
        }

        int countOf(int sort) {
            switch (sort) {
                case SHIP_SORT: return ships;
                case HAND_SORT: return hands;
                case PAPER_SORT: return papers;
                case WATCH_SORT: return watches;
                default: return REFUSED;
            }
        }

        /** Where a text of a sort goes; REFUSED if it can go nowhere. */
        int placeFor(int sort, int at) {
            int has = countOf(sort);
            int room = sort == HAND_SORT ? MOST_HANDS : sort == SHIP_SORT ? MOST_SHIPS
                : sort == PAPER_SORT ? MOST_PAPERS : MOST_WATCHES;
            if (has < 0) {
                return REFUSED;
            }
            if (at == NONE) {
                return has < room ? has : REFUSED;
            }
            return at >= 0 && at < has ? at : REFUSED;
        }

        void keep(int sort, int place, Reader read) {
            if (read == null) {
                return;
            }
            switch (sort) {
                case SHIP_SORT:
                    ships = Math.max(ships, place + 1);
                    copyShip(read.ship, place);
                    break;
                case HAND_SORT:
                    hands = Math.max(hands, place + 1);
                    copyHand(read.hand, place);
                    break;
                case PAPER_SORT:
                    papers = Math.max(papers, place + 1);
                    copyPaper(read.paper, place);
                    break;
                case WATCH_SORT:
                    watches = Math.max(watches, place + 1);
                    copyWatch(read.watch, place);
                    break;
                default:
                    break;
            }
        }

        void copy(Book other) {
            if (other == null) {
                return;
            }
            tape.copy(other.tape);
            fault = other.fault;
            faultPlace = other.faultPlace;
            ships = other.ships;
            hands = other.hands;
            papers = other.papers;
            watches = other.watches;
            for (int i = 0; i < MOST_SHIPS; i++) {
                copyShip(other.shipAt(i), i);
            }
            for (int i = 0; i < MOST_HANDS; i++) {
                copyHand(other.handAt(i), i);
            }
            for (int i = 0; i < MOST_PAPERS; i++) {
                copyPaper(other.paperAt(i), i);
            }
            for (int i = 0; i < MOST_WATCHES; i++) {
                copyWatch(other.watchAt(i), i);
            }
        }

        private void copyShip(Ship from, int place) {
            Ship to = shipAt(place);
            if (to != null) {
                to.copy(from);
            }
        }

        private void copyHand(Hand from, int place) {
            Hand to = handAt(place);
            if (to != null) {
                to.copy(from);
            }
        }

        private void copyPaper(Paper from, int place) {
            Paper to = paperAt(place);
            if (to != null) {
                to.copy(from);
            }
        }

        private void copyWatch(Watch from, int place) {
            Watch to = watchAt(place);
            if (to != null) {
                to.copy(from);
            }
        }
    }

    /** Takes a tape as a text; what it tells stands in a draft until no FAULT is sure. */
    private static final class Reader {
        private static final int END = 0;
        private static final int WORD = 1;
        private static final int NUMBER = 2;
        private static final int MINUS = 3;
        private static final int SEMICOLON = 4;
        private static final int BLANK = 5;
        private static final int STRANGE = 6;

        final Ship ship = new Ship();
        final Hand hand = new Hand();
        final Paper paper = new Paper();
        final Watch watch = new Watch();
        int fault;
        int faultPlace;
        private final Tape tape = new Tape();
        // The token that is looked at: its kind, its first byte, the byte behind it.
        private int kind;
        private int place;
        private int behind;
        // The number read last, and where it began, with its - if it has one.
        private int value;
        private int begun;

        void take(int sort, Tape told) {
            tape.copy(told);
            fault = 0;
            faultPlace = NONE;
            ship.clear();
            hand.clear();
            paper.clear();
            watch.clear();
            behind = 0;
            next();
            boolean goesOn = true;
            for (int i = 0; i <= TAPE_BYTES && goesOn && kind != END; i++) {
                goesOn = kind == WORD && takeLine(sort) && takeSemicolon();
            }
            if (!goesOn) {
                fault = 1;
                faultPlace = place;
            } else if (sort == PAPER_SORT && paper.size == 0) {
                note(4, place);
            }
        }

        private void note(int what, int where) {
            boolean ahead = where < faultPlace || (where == faultPlace && what < fault);
            if (fault == 0 || ahead) {
                fault = what;
                faultPlace = where;
            }
        }

        private boolean takeLine(int sort) {
            switch (sort) {
                case SHIP_SORT: return isWord("sea") ? takeSeas() : takeShipNumbers();
                case HAND_SORT: return isWord("star") ? takeStar() : takeHandNumber();
                case PAPER_SORT: return isWord("row") && takeHeadings();
                case WATCH_SORT: return isWord("man") && takeMan();
                default: return false;
            }
        }

        private boolean takeSemicolon() {
            if (kind != SEMICOLON) {
                return false;
            }
            next();
            return true;
        }

        private boolean takeShipNumbers() {
            int what = shipWord();
            if (what == NONE) {
                return false;
            }
            next();
            return takeShipNumber(what) && (what != HEADING || takeShipNumber(PACE));
        }

        private boolean takeShipNumber(int what) {
            if (!takeNumber(what >= WIND, at(SHIP_LEAST, what), at(SHIP_MOST, what))) {
                return false;
            }
            ship.write(what, value);
            return true;
        }

        private boolean takeSeas() {
            ship.seaCount = 0;
            next();
            for (int i = 0; i == 0 || (i <= TAPE_BYTES && goesOnWithNumber()); i++) {
                if (!takeNumber(true, -99, 99)) {
                    return false;
                }
                if (!ship.addSea(value)) {
                    note(3, begun);
                }
            }
            return true;
        }

        private boolean takeHandNumber() {
            int what = handWord();
            if (what == NONE) {
                return false;
            }
            next();
            if (what == EASY) {
                hand.write(EASY, 1);
                return true;
            }
            if (!takeNumber(false, at(HAND_LEAST, what), at(HAND_MOST, what))) {
                return false;
            }
            hand.write(what, value);
            return true;
        }

        private boolean takeStar() {
            int start = place;
            next();
            if (!takeNumber(false, 0, 999)) {
                return false;
            }
            int from = value;
            if (!takeNumber(false, from, 999)) {
                return false;
            }
            if (!hand.addStar(from, value)) {
                note(3, start);
            }
            return true;
        }

        private boolean takeHeadings() {
            next();
            for (int i = 0; i == 0 || (i <= TAPE_BYTES && goesOnWithNumber()); i++) {
                if (!takeNumber(true, -9999, 9999)) {
                    return false;
                }
                if (!paper.addHeading(value)) {
                    note(3, begun);
                }
            }
            return true;
        }

        private boolean takeMan() {
            int start = place;
            next();
            if (!takeNumber(false, 0, 3)) {
                return false;
            }
            int steering = value;
            if (!takeNumber(false, 1, 200)) {
                return false;
            }
            if (!watch.addMan(steering, value)) {
                note(3, start);
            }
            return true;
        }

        private boolean goesOnWithNumber() {
            return kind == NUMBER || kind == MINUS;
        }

        private boolean takeNumber(boolean signed, int least, int most) {
            begun = place;
            boolean below = signed && kind == MINUS;
            if (below) {
                next();
            }
            if (kind != NUMBER) {
                return false;
            }
            int number = 0;
            for (int i = place; i < behind; i++) {
                number = 10 * number + tape.byteAt(i) - '0';
            }
            value = below ? -number : number;
            if (value < least || value > most) {
                note(2, place);
            }
            next();
            return true;
        }

        private int shipWord() {
            return isWord("turn") ? TURN : isWord("calm") ? CALM : isWord("lag") ? LAG
                : isWord("most") ? MOST : isWord("gear") ? GEAR : isWord("rub") ? RUB
                : isWord("wind") ? WIND : isWord("trim") ? TRIM : isWord("start") ? HEADING : NONE;
        }

        private int handWord() {
            return isWord("far") ? FAR : isWord("quick") ? QUICK : isWord("been") ? BEEN
                : isWord("dead") ? DEAD : isWord("point") ? POINT : isWord("wrong") ? WRONG
                : isWord("tired") ? TIRED : isWord("slips") ? SLIPS : isWord("easy") ? EASY : NONE;
        }

        private boolean isWord(String word) {
            if (word == null || behind - place != word.length()) {
                return false;
            }
            for (int i = 0; i < word.length(); i++) {
                if (tape.byteAt(place + i) != word.charAt(i)) {
                    return false;
                }
            }
            return true;
        }

        private void next() {
            while (behind < tape.length && kindOf(tape.byteAt(behind)) == BLANK) {
                behind++;
            }
            place = behind;
            kind = kindOf(tape.byteAt(place));
            if (kind == END) {
                return;
            }
            boolean isRow = kind == WORD || kind == NUMBER;
            behind++;
            while (isRow && behind < tape.length && kindOf(tape.byteAt(behind)) == kind) {
                behind++;
            }
            if (kind == NUMBER && behind - place > 4) {
                kind = STRANGE;
            }
        }

        private static int kindOf(int sign) {
            if (sign == NONE) {
                return END;
            }
            if (sign == 10 || sign == 32) {
                return BLANK;
            }
            if (sign >= 'a' && sign <= 'z') {
                return WORD;
            }
            if (sign >= '0' && sign <= '9') {
                return NUMBER;
            }
            return sign == '-' ? MINUS : sign == ';' ? SEMICOLON : STRANGE;
        }
    }

    /** A man at the wheel: what he keeps in mind from second to second. */
    private static final class Mate {
        private Hand hand;
        private int t;
        private int sum;
        int saw;

        void relieve(Hand next) {
            hand = next;
            t = 0;
            sum = 0;
            saw = 0;
        }

        /** The RUDDER he wants next. */
        int wants(Wheel wheel) {
            if (hand == null || wheel == null || wheel.ship == null) {
                return 0;
            }
            t++;
            int lag = hand.hasStarAt(t) ? 0 : wheel.ship.lag + hand.slowBy(t);
            int sees = hand.pointed(wheel.headingAgo(lag));
            int goes = t == 1 ? 0 : sees - saw;
            sum = within(sum + sees, 9999);
            saw = sees;
            int wanted = within(hand.ruled(sees, goes, sum), wheel.ship.most);
            if (t <= hand.wrong) {
                wanted = -wanted;
            }
            if (hand.slips > 0 && wheel.drawn() < hand.slips) {
                return wheel.rudderNow();
            }
            return wanted;
        }
    }

    /** A RUN, second by second, and what is told of it. */
    private static final class Wheel {
        Ship ship;
        int last;
        final int[] headings = new int[LONGEST_RUN + 1];
        final int[] paces = new int[LONGEST_RUN + 1];
        final int[] rudders = new int[LONGEST_RUN + 1];
        final int[] saws = new int[LONGEST_RUN + 1];
        private int seed;
        private final Mate mate = new Mate();
        private final Mate helper = new Mate();

        void sail(Ship sailing, Hand steering, int newSeed, int n) {
            begin(sailing, newSeed);
            steer(steering, n);
        }

        void begin(Ship sailing, int newSeed) {
            ship = sailing;
            seed = newSeed;
            last = 0;
            put(headings, 0, sailing == null ? 0 : sailing.heading);
            put(paces, 0, sailing == null ? 0 : sailing.pace);
            put(rudders, 0, 0);
            put(saws, 0, 0);
        }

        void steer(Hand hand, int seconds) {
            mate.relieve(hand);
            for (int i = 0; i < seconds && last < LONGEST_RUN; i++) {
                move(mate.wants(this));
            }
        }

        void steerTogether(Hand one, Hand other, int seconds) {
            mate.relieve(one);
            helper.relieve(other);
            for (int i = 0; i < seconds && last < LONGEST_RUN; i++) {
                int wanted = mate.wants(this);
                move((wanted + helper.wants(this)) / 2);
            }
        }

        private void move(int wanted) {
            if (ship == null) {
                return;
            }
            int heading = at(headings, last);
            int pace = at(paces, last);
            int rudder = rudderNow() + within(wanted - rudderNow(), ship.gear);
            last++;
            pace = within(pace - pace * ship.calm / 100 + ship.turn * rudder + ship.wind
                + ship.seaOf(last) - ship.trim * heading / 100, 9999);
            put(headings, last, within(heading + pace, 18000));
            put(paces, last, pace);
            put(rudders, last, rudder);
            put(saws, last, mate.saw);
        }

        int headingAgo(int seconds) {
            return at(headings, Math.max(0, last - seconds));
        }

        int rudderNow() {
            return at(rudders, last);
        }

        int drawn() {
            seed = seed * 1103515245 + 12345;
            return (seed >>> 16) % 100;
        }

        long tally(int what) {
            switch (what) {
                case 0: return cost();
                case 1: return off();
                case 2: return wear();
                case 3: return lost();
                case 4: return widest();
                case 5: return drift();
                case 6: return crossings();
                case 7: return grows() ? 1 : 0;
                case 8: return spokes();
                case 9: return waits();
                default: return NO_LONG;
            }
        }

        private int offAt(int t) {
            return Math.abs(at(headings, t));
        }

        private int turnedAt(int t) {
            return Math.abs(at(rudders, t) - at(rudders, t - 1));
        }

        private long costAt(int t) {
            return ship == null ? 0 : offAt(t) + ship.rub * turnedAt(t);
        }

        long cost() {
            long all = 0;
            for (int t = 1; t <= last; t++) {
                all += costAt(t);
            }
            return all;
        }

        long off() {
            long all = 0;
            for (int t = 1; t <= last; t++) {
                all += offAt(t);
            }
            return all;
        }

        long wear() {
            long all = 0;
            for (int t = 1; t <= last; t++) {
                all += turnedAt(t);
            }
            return all;
        }

        long lost() {
            long all = 0;
            for (int t = 1; t <= last; t++) {
                all += offAt(t) * offAt(t) / 1000;
            }
            return all;
        }

        long widest() {
            int most = 0;
            for (int t = 1; t <= last; t++) {
                most = Math.max(most, offAt(t));
            }
            return most;
        }

        long drift() {
            long all = 0;
            for (int t = 1; t <= last; t++) {
                all += at(headings, t);
            }
            return all;
        }

        private int signAt(int t) {
            return Integer.compare(at(headings, t), 0);
        }

        long crossings() {
            int sign = signAt(0);
            int times = 0;
            for (int t = 1; t <= last; t++) {
                if (signAt(t) * sign < 0) {
                    times++;
                }
                sign = signAt(t) == 0 ? sign : signAt(t);
            }
            return times;
        }

        /** PEAK k; one of no seconds, where START's sign is left at once, is 0. */
        int peakAt(int k) {
            int sign = signAt(0);
            int number = 0;
            int top = 0;
            for (int t = 1; t <= last; t++) {
                if (signAt(t) * sign < 0) {
                    if (number == k) {
                        return top;
                    }
                    number++;
                    top = 0;
                }
                sign = signAt(t) == 0 ? sign : signAt(t);
                top = Math.max(top, offAt(t));
            }
            return number == k ? top : NONE;
        }

        boolean grows() {
            int peaks = (int) crossings() + 1;
            return peaks >= 3 && peakAt(peaks - 2) > peakAt(peaks - 3);
        }

        long spokes() {
            int times = 0;
            for (int t = 1; t <= last; t++) {
                times += turnedAt(t) != 0 ? 1 : 0;
            }
            return times;
        }

        long waits() {
            int longest = 0;
            int still = 0;
            for (int t = 1; t <= last; t++) {
                still = turnedAt(t) == 0 ? still + 1 : 0;
                longest = Math.max(longest, still);
            }
            return longest;
        }

        /** NONE: never. */
        int earliestBeyond(int w) {
            for (int t = 1; t <= last; t++) {
                if (offAt(t) > w) {
                    return t;
                }
            }
            return NONE;
        }

        /** 0: never. */
        int latestBeyond(int w) {
            for (int t = last; t >= 1; t--) {
                if (offAt(t) > w) {
                    return t;
                }
            }
            return 0;
        }

        int dearest() {
            int best = NONE;
            for (int t = 1; t <= last; t++) {
                if (best == NONE || costAt(t) > costAt(best)) {
                    best = t;
                }
            }
            return best;
        }

        int halfway() {
            long all = cost();
            long come = 0;
            for (int t = 1; t <= last; t++) {
                come += costAt(t);
                if (2 * come >= all) {
                    return t;
                }
            }
            return NONE;
        }

        int apartFrom(Paper told) {
            int all = 0;
            for (int k = 0; told != null && k < told.size; k++) {
                all += Math.abs(at(told.headings, k) - at(headings, k + 1));
            }
            return all;
        }

        int alikeTo(Paper told) {
            int k = 0;
            while (told != null && k < told.size && at(told.headings, k) == at(headings, k + 1)) {
                k++;
            }
            return k;
        }
    }
}
