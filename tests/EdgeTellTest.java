/** The boundaries of Term 1 and of promises 1 to 9, 40 to 42: at each one, one step within, one step beyond. */
final class EdgeTellTest {
    private static final int S = Testing.SHIP;
    private static final int H = Testing.HAND;
    private static final int P = Testing.PAPER;
    private static final int W = Testing.WATCH;
    private static final int NONE = Testing.NONE;
    private static final int MISSING = Testing.MISSING;
    private static final int LEAST = Integer.MIN_VALUE;
    private static final int MOST = Integer.MAX_VALUE;
    private static final int[] ROOM = {2, 4, 2, 2};
    private static final String[] PLAIN = {"turn 9;", "far 9;", "row 9;", "man 0 9;"};
    private static final String FULL_SHIP = "turn 1;calm 2;lag 3;most 4;gear 5;rub 6;wind -7;trim -8;start 9 -10;sea 11 -12 13;";
    private static final String FULL_HAND = "far 1;quick 2;been 3;dead 4;point 5;wrong 6;tired 7;slips 8;easy;star 1 2;star 3 4;";

    public static void main(String[] args) {
        term1RangesOfAShip();
        term1RangesOfStart();
        term1RangesOfAHand();
        term1RangesOfRows();
        term1AtFirst();
        term1HowManySeas();
        term1HowManyStars();
        term1HowManyHeadings();
        term1HowManyMen();
        term1SixHundredBytes();
        term1Blanks();
        term1Words();
        term1Numbers();
        term1SignsBetween();
        term1EveryByte();
        term1LaterOnesStrike();
        term1FaultOne();
        term1TheFirstByPlace();
        term1FaultFour();
        promise1NewObject();
        promise2Feed();
        promise2HighestFirst();
        promise3End();
        promise4HowMany();
        promise4InThePlaceOfOne();
        promise4TheTapeIsEmptyThen();
        promise4NoTextIsRead();
        promise5Fault();
        promise6Ship();
        promise7Hand();
        promise8Paper();
        promise9Watch();
        promise40Count();
        promise41Image();
        promise42Again();
        Testing.close("EdgeTellTest");
    }

    private static void due(String call, long got, long want) {
        Testing.due(call, got, want);
    }

    private static void due(String call, boolean got, boolean want) {
        Testing.due(call, got, want);
    }

    private static void dueFault(int sort, String text, int fault, int place) {
        Testing.dueFault(sort, text, fault, place);
    }

    private static int look(HelmHand x, int sort, int what) {
        return sort == S ? x.ship(0, what) : sort == H ? x.hand(0, what) : sort == P ? x.paper(0, what)
            : x.watch(0, 0, what);
    }

    private static void dueTold(int sort, String text, int what, int value) {
        HelmHand x = new HelmHand();
        due("'" + text + "' is read", Testing.tell(x, sort, text), 0);
        due("'" + text + "' what " + what, look(x, sort, what), value);
        due("'" + text + "' FAULT", x.fault(0), 0);
    }

    /** A text with one number at #: what it may be, and FAULT 2 at its digits where it can't be. */
    private static void dueRange(int sort, String text, int what, int least, int most) {
        int at = text.indexOf('#');
        for (int v : new int[] {least, least + 1, most - 1, most}) {
            dueTold(sort, text.replace("#", "" + v), what, v);
        }
        dueFault(sort, text.replace("#", "" + (most + 1)), 2, at);
        if (least < 0) {
            dueFault(sort, text.replace("#", "" + (least - 1)), 2, at + 1);
        } else if (least > 0) {
            dueFault(sort, text.replace("#", "" + (least - 1)), 2, at);
        }
        if (least >= 0) {
            dueFault(sort, text.replace("#", "-1"), 1, at);
            dueFault(sort, text.replace("#", "-0"), 1, at);
        }
    }

    // ---- Term 1: what may be

    private static void term1RangesOfAShip() {
        dueRange(S, "turn #;", 0, 0, 99);
        dueRange(S, "calm #;", 1, 0, 100);
        dueRange(S, "lag #;", 2, 0, 9);
        dueRange(S, "most #;", 3, 1, 35);
        dueRange(S, "gear #;", 4, 1, 35);
        dueRange(S, "rub #;", 5, 0, 99);
        dueRange(S, "wind #;", 6, -99, 99);
        dueRange(S, "trim #;", 7, -99, 99);
        dueRange(S, "sea #;", 20, -99, 99);
        dueRange(S, "sea 5 #;", 21, -99, 99);
        dueRange(S, "sea 1 2 3 4 5 6 7 8 9 10 11 #;", 31, -99, 99);
        for (String word : new String[] {"wind", "trim"}) {
            int what = word.equals("wind") ? 6 : 7;
            dueTold(S, word + " -1;", what, -1);
            dueTold(S, word + " -0;", what, 0);
            dueTold(S, word + " 0;", what, 0);
            dueTold(S, word + " 1;", what, 1);
        }
    }

    private static void term1RangesOfStart() {
        dueRange(S, "start # 0;", 8, -999, 999);
        dueRange(S, "start 0 #;", 9, -999, 999);
        dueRange(S, "start -999 #;", 9, -999, 999);
        dueFault(S, "start 1000 1000;", 2, 6);
        dueFault(S, "start -1000 1000;", 2, 7);
        dueFault(S, "start 0;", 1, 7);
        dueFault(S, "start 0 0;", 0, NONE);
        dueFault(S, "start 0 0 0;", 1, 10);
        dueFault(S, "start 0-0;", 0, NONE);
        dueFault(S, "start;", 1, 5);
    }

    private static void term1RangesOfAHand() {
        dueRange(H, "far #;", 0, 0, 99);
        dueRange(H, "quick #;", 1, 0, 99);
        dueRange(H, "been #;", 2, 0, 99);
        dueRange(H, "dead #;", 3, 0, 999);
        dueRange(H, "point #;", 4, 1, 999);
        dueRange(H, "wrong #;", 5, 0, 999);
        dueRange(H, "tired #;", 6, 0, 999);
        dueRange(H, "slips #;", 7, 0, 100);
        dueRange(H, "star # 999;", 10, 0, 999);
        dueRange(H, "star 0 #;", 20, 0, 999);
        dueRange(H, "star 500 #;", 20, 500, 999);
        dueRange(H, "star 998 #;", 20, 998, 999);
        dueTold(H, "star 999 999;", 20, 999);
        dueFault(H, "star 999 998;", 2, 9);
        dueFault(H, "star 1 0;", 2, 7);
        dueFault(H, "star 1000 1000;", 2, 5);
        dueFault(H, "star 1000 0;", 2, 5);
        dueTold(H, "easy;", 8, 1);
        dueTold(H, "", 8, 0);
        dueTold(H, "easy;easy;", 8, 1);
        dueFault(H, "easy 0;", 1, 5);
        dueFault(H, "star;", 1, 4);
        dueFault(H, "star 0;", 1, 6);
        dueFault(H, "star 0 0 0;", 1, 9);
    }

    private static void term1RangesOfRows() {
        for (int v : new int[] {-9999, -9998, -1, 0, 1, 9998, 9999}) {
            dueTold(P, "row " + v + ";", 0, v);
        }
        // One more than 9999 has five digits: that is no token.
        dueFault(P, "row 10000;", 1, 4);
        dueFault(P, "row -10000;", 1, 5);
        dueRange(W, "man # 1;", 0, 0, 3);
        dueRange(W, "man 0 #;", 1, 1, 200);
        dueRange(W, "man 3 #;", 1, 1, 200);
        dueFault(W, "man 4 0;", 2, 4);
        dueFault(W, "man;", 1, 3);
        dueFault(W, "man 0;", 1, 5);
        dueFault(W, "man 0 1 1;", 1, 8);
    }

    private static void dueFirst(HelmHand x, String when) {
        int[] ship = {5, 10, 0, 35, 35, 0, 0, 0, 0, 0, 1};
        for (int what = 0; what < ship.length; what++) {
            due(when + ", SHIP at first " + what, x.ship(0, what), ship[what]);
        }
        due(when + ", one SEA at first", x.ship(0, 20), 0);
        due(when + ", one SEA at first", x.ship(0, 21), MISSING);
        int[] hand = {0, 0, 0, 0, 1, 0, 0, 0, 0, 0, NONE};
        for (int what = 0; what < hand.length; what++) {
            due(when + ", HAND at first " + what, x.hand(0, what), hand[what]);
        }
        due(when + ", no STAR at first", x.hand(0, 20), NONE);
    }

    private static void term1AtFirst() {
        HelmHand x = new HelmHand();
        due("an empty SHIP", Testing.tell(x, S, ""), 0);
        due("an empty HAND", Testing.tell(x, H, ""), 0);
        dueFirst(x, "new");
        // What is told stays: neither an earlier text nor one with a FAULT leaves anything in the next one.
        Testing.tell(x, S, FULL_SHIP);
        Testing.tell(x, H, FULL_HAND);
        Testing.put(x, "");
        due("an empty SHIP over one", x.text(S, 0), 0);
        Testing.put(x, "");
        due("an empty HAND over one", x.text(H, 0), 0);
        dueFirst(x, "after full ones");
        Testing.put(x, FULL_SHIP + "?");
        due("a SHIP with a FAULT", x.text(S, 0), NONE);
        Testing.put(x, FULL_HAND + "?");
        due("a HAND with a FAULT", x.text(H, 0), NONE);
        dueFirst(x, "a FAULT");
        Testing.put(x, "");
        x.text(S, 0);
        Testing.put(x, "");
        x.text(H, 0);
        dueFirst(x, "after FAULTS");
        due("a row", Testing.tell(x, P, "row 1 2 3;"), 0);
        due("a shorter row", Testing.tell(x, P, "row 4;"), 1);
        due("a shorter row", x.paper(1, NONE), 1);
        due("MEN", Testing.tell(x, W, "man 0 1;man 0 1;"), 0);
        due("no MEN", Testing.tell(x, W, ""), 1);
        due("no MEN", x.watch(1, NONE, 0), 0);
    }

    private static String row(String word, int numbers) {
        StringBuilder text = new StringBuilder(word);
        for (int k = 1; k <= numbers; k++) {
            text.append(' ').append(k % 10);
        }
        return text + ";";
    }

    private static void term1HowManySeas() {
        dueFault(S, "sea;", 1, 3);
        for (int count : new int[] {1, 2, 11, 12}) {
            dueTold(S, row("sea", count), 10, count);
            dueTold(S, row("sea", count), 20 + count - 1, count % 10);
            dueTold(S, row("sea", count), 20 + count, MISSING);
        }
        int thirteenth = row("sea", 12).length();
        dueFault(S, row("sea", 13), 3, thirteenth);
        dueFault(S, row("sea", 14), 3, thirteenth);
        dueFault(S, row("sea", 12).replace(";", " -3;"), 3, thirteenth);
        dueFault(S, row("sea", 12).replace(";", "-3;"), 3, thirteenth - 1);
        dueFault(S, row("sea", 12).replace(";", " \n - 3;"), 3, thirteenth + 2);
        dueFault(S, row("sea", 12).replace(";", " 99;"), 3, thirteenth);
        // Of one place the least FAULT: the number alone is where both are.
        dueFault(S, row("sea", 12).replace(";", " 100;"), 2, thirteenth);
        dueFault(S, row("sea", 12).replace(";", " -100;"), 3, thirteenth);
        dueFault(S, row("sea", 11).replace(";", " 100 1;"), 2, thirteenth - 2);
        // Each line has a row of its own.
        dueTold(S, row("sea", 12) + row("sea", 12), 10, 12);
        dueTold(S, row("sea", 12) + row("sea", 1), 10, 1);
        dueFault(S, row("sea", 12) + row("sea", 13), 3, 2 * thirteenth);
    }

    private static void term1HowManyStars() {
        String star = "star 7 8;";
        for (int count = 0; count <= 4; count++) {
            dueTold(H, star.repeat(count), 9, count);
            dueTold(H, star.repeat(count), 10 + count, NONE);
            dueTold(H, star.repeat(count), 20 + count, NONE);
            if (count > 0) {
                dueTold(H, star.repeat(count), 9 + count, 7);
                dueTold(H, star.repeat(count), 19 + count, 8);
            }
        }
        dueFault(H, star.repeat(5), 3, 36);
        dueFault(H, star.repeat(6), 3, 36);
        dueFault(H, star.repeat(4) + "\n " + star, 3, 38);
        // The star is told all the same where its number can't be: its first token is ahead of the number.
        dueFault(H, star.repeat(4) + "star 8 7;", 3, 36);
        dueFault(H, star.repeat(4) + "star 1000 7;", 3, 36);
        dueFault(H, "star 8 7;" + star.repeat(4), 2, 7);
        dueFault(H, star.repeat(3) + "star 8 7;", 2, 34);
    }

    private static void term1HowManyHeadings() {
        for (int count : new int[] {1, 2, 59, 60}) {
            HelmHand x = new HelmHand();
            due("HEADINGS " + count, Testing.tell(x, P, row("row", count)), 0);
            due("HEADINGS " + count, x.paper(0, NONE), count);
            due("the last HEADING of " + count, x.paper(0, count - 1), count % 10);
            due("none behind it", x.paper(0, count), MISSING);
        }
        int next = row("row", 60).length();
        dueFault(P, row("row", 61), 3, next);
        dueFault(P, row("row", 62), 3, next);
        dueFault(P, row("row", 60).replace(";", " -1;"), 3, next);
        dueFault(P, row("row", 60).replace(";", "-1;"), 3, next - 1);
        dueFault(P, row("row", 30) + row("row", 30), 0, NONE);
        dueFault(P, row("row", 30) + row("row", 31), 3, 64 + 64);
        dueFault(P, row("row", 60) + row("row", 1), 3, next + 4);
        dueFault(P, row("row", 59) + row("row", 1), 0, NONE);
    }

    private static void term1HowManyMen() {
        String man = "man 3 200;";
        for (int count : new int[] {0, 1, 7, 8}) {
            HelmHand x = new HelmHand();
            due("MEN " + count, Testing.tell(x, W, man.repeat(count)), 0);
            due("MEN " + count, x.watch(0, NONE, 0), count);
            due("the last MAN of " + count, x.watch(0, count - 1, count == 0 ? 0 : 1), count == 0 ? 0 : 200);
            due("none behind him", x.watch(0, count, 1), NONE);
        }
        dueFault(W, man.repeat(9), 3, 80);
        dueFault(W, man.repeat(10), 3, 80);
        dueFault(W, man.repeat(8) + "man 4 200;", 3, 80);
        dueFault(W, man.repeat(8) + "man 3 201;", 3, 80);
        dueFault(W, man.repeat(7) + "man 3 201;", 2, 76);
        dueFault(W, "man 3 0;" + man.repeat(8), 2, 6);
    }

    private static void term1SixHundredBytes() {
        dueTold(H, " ".repeat(593) + "far 7;", 0, 7);
        dueTold(H, " ".repeat(594) + "far 7;", 0, 7);
        dueTold(H, "far 7;" + "\n".repeat(594), 0, 7);
        dueFault(H, " ".repeat(595) + "far 7", 1, 600);
        dueFault(H, "far 7;" + " ".repeat(593) + "x", 1, 599);
        dueFault(H, " ".repeat(600), 0, NONE);
        dueFault(P, " ".repeat(600), 4, 600);
        dueFault(H, "easy;".repeat(120), 0, NONE);
        dueFault(H, "easy;".repeat(119) + "easy ", 1, 600);
        dueFault(H, ";".repeat(600), 1, 0);
        dueFault(S, "sea " + "1 ".repeat(297) + "1;", 3, 28);
        dueFault(S, "sea" + "-1".repeat(298) + ";", 3, 27);
        dueFault(S, "sea" + "-1".repeat(298) + "-", 1, 600);
        dueFault(P, "row" + "-1".repeat(298) + ";", 3, 123);
        dueFault(H, "x".repeat(600), 1, 0);
        dueFault(H, "far " + "1".repeat(596), 1, 4);
    }

    // ---- Term 1: tokens

    private static void term1Blanks() {
        for (int sign : new int[] {10, 32}) {
            dueTold(S, "turn" + (char) sign + "7;", 0, 7);
            dueTold(S, (char) sign + "turn 7;", 0, 7);
            dueTold(S, "turn 7;" + (char) sign, 0, 7);
            dueTold(S, "wind -" + (char) sign + "7;", 6, -7);
            dueTold(S, "turn 7" + (char) sign + (char) sign + ";", 0, 7);
        }
        for (int sign : new int[] {9, 11, 13, 31, 33}) {
            dueFault(S, "turn" + (char) sign + "7;", 1, 4);
            dueFault(S, (char) sign + "turn 7;", 1, 0);
            dueFault(S, "turn 7;" + (char) sign, 1, 7);
            dueFault(S, "turn 7" + (char) sign + ";", 1, 6);
        }
        // A blank ends a token.
        dueFault(S, "tu rn 7;", 1, 0);
        dueFault(S, "turn 7 7;", 1, 7);
        dueTold(S, "turn7;calm8;", 1, 8);
        dueTold(P, "row 1 2;", NONE, 2);
        dueTold(P, "row 12;", NONE, 1);
    }

    private static void term1Words() {
        dueFault(S, "a 7;", 1, 0);
        dueFault(S, "z 7;", 1, 0);
        // As long as they go: the letters a .. z alone, and all of them.
        dueFault(S, "turna 7;", 1, 0);
        dueFault(S, "turnz 7;", 1, 0);
        dueFault(S, "aturn 7;", 1, 0);
        dueFault(S, "turn{7;", 1, 4);
        dueFault(S, "turn`7;", 1, 4);
        dueFault(S, "turn@7;", 1, 4);
        dueFault(S, "turn[7;", 1, 4);
        dueFault(S, "turnA 7;", 1, 4);
        dueFault(S, "turnZ 7;", 1, 4);
        dueFault(S, "tURN 7;", 1, 0);
        dueFault(S, "Turn 7;", 1, 0);
        dueFault(S, "tur", 1, 0);
        dueFault(S, "turn", 1, 4);
        dueFault(S, "turn turn 7;", 1, 5);
        String[][] words = {{"turn", "calm", "lag", "most", "gear", "rub", "wind", "trim", "start", "sea"},
            {"far", "quick", "been", "dead", "point", "wrong", "tired", "slips", "easy", "star"}, {"row"}, {"man"}};
        for (int sort = 0; sort < 4; sort++) {
            for (int of = 0; of < 4; of++) {
                for (String word : words[of]) {
                    String line = word + (word.equals("easy") ? ";" : word.matches("start|star|man") ? " 1 1;" : " 1;");
                    String ahead = sort == P ? "row 1;" : "";
                    dueFault(sort, ahead + line, sort == of ? 0 : 1, sort == of ? NONE : ahead.length());
                    if (sort == of) {
                        dueFault(sort, ahead + word.substring(1) + line.substring(word.length()), 1, ahead.length());
                        dueFault(sort, ahead + word.substring(0, word.length() - 1) + line.substring(word.length()), 1, ahead.length());
                        dueFault(sort, ahead + "x" + word.substring(1) + line.substring(word.length()), 1, ahead.length());
                        dueFault(sort, ahead + word + "s" + line.substring(word.length()), 1, ahead.length());
                    }
                }
            }
        }
    }

    private static void term1Numbers() {
        dueFault(H, "dead ;", 1, 5);
        dueTold(H, "dead 9;", 3, 9);
        dueTold(H, "dead 99;", 3, 99);
        dueTold(H, "dead 999;", 3, 999);
        dueTold(H, "dead 0999;", 3, 999);
        dueTold(H, "dead 0000;", 3, 0);
        dueFault(H, "dead 9999;", 2, 5);
        dueFault(H, "dead 00999;", 1, 5);
        dueFault(H, "dead 00000;", 1, 5);
        dueFault(H, "dead 99999999999999999999;", 1, 5);
        dueTold(S, "wind -0099;", 6, -99);
        dueFault(S, "wind -00099;", 1, 6);
        dueFault(S, "sea 1 00000 2;", 1, 6);
        dueFault(W, "man 0 00001;", 1, 6);
        dueFault(H, "star 00000 1;", 1, 5);
        dueTold(P, "row 0123;", 0, 123);
        // The signs next to 0 .. 9 are none of them.
        for (char sign : new char[] {'/', ':'}) {
            dueFault(S, "turn " + sign + ";", 1, 5);
            dueFault(S, "turn 5" + sign + ";", 1, 6);
        }
        dueTold(S, "turn 09;", 0, 9);
        dueTold(S, "turn 90;", 0, 90);
        dueFault(S, "12345", 1, 0);
        dueFault(S, "5", 1, 0);
    }

    private static void term1SignsBetween() {
        for (char sign : new char[] {',', '.', '+', '_'}) {
            dueFault(S, "wind " + sign + "5;", 1, 5);
        }
        for (char sign : new char[] {':', '<', ','}) {
            dueFault(S, "turn 5" + sign, 1, 6);
        }
        dueFault(S, "wind --5;", 1, 6);
        dueFault(S, "wind 5-;", 1, 6);
        dueFault(S, "wind -;", 1, 6);
        dueFault(S, "wind -", 1, 6);
        dueFault(S, "turn 5;;", 1, 7);
        dueFault(S, ";", 1, 0);
        dueFault(S, "-5;", 1, 0);
        dueTold(P, "row 1-2-3 4;", NONE, 4);
        dueTold(P, "row-1;", 0, -1);
        dueFault(P, "row 1--2;", 1, 6);
    }

    /** All 256 bytes, each at the place where a line may begin, a number may go on, a number may stand. */
    private static void term1EveryByte() {
        for (int sign = 0; sign < 256; sign++) {
            boolean blank = sign == 10 || sign == 32;
            boolean digit = sign >= '0' && sign <= '9';
            dueFault(S, "turn 5;" + (char) sign, blank ? 0 : 1, blank ? NONE : 7);
            boolean ends = blank || digit;
            dueFault(S, "turn 5" + (char) sign + ";", ends ? 0 : 1, ends ? NONE : sign == ';' ? 7 : 6);
            dueFault(S, "turn " + (char) sign + ";", digit ? 0 : 1, digit ? NONE : blank ? 6 : 5);
        }
    }

    private static void term1LaterOnesStrike() {
        String[] ship = {"turn", "calm", "lag", "most", "gear", "rub", "wind", "trim"};
        for (int what = 0; what < ship.length; what++) {
            dueTold(S, ship[what] + " 2;" + ship[what] + " 1;", what, 1);
        }
        dueTold(S, "start 1 2;start 3 4;", 8, 3);
        dueTold(S, "start 1 2;start 3 4;", 9, 4);
        dueTold(S, "sea 1 2 3;sea 4 5;", 10, 2);
        dueTold(S, "sea 1 2 3;sea 4 5;", 20, 4);
        dueTold(S, "sea 1 2 3;sea 4 5;", 22, MISSING);
        String[] hand = {"far", "quick", "been", "dead", "point", "wrong", "tired", "slips"};
        for (int what = 0; what < hand.length; what++) {
            dueTold(H, hand[what] + " 2;" + hand[what] + " 1;", what, 1);
        }
        dueTold(H, "star 1 2;star 3 4;", 9, 2);
        dueTold(H, "star 1 2;star 3 4;", 10, 1);
        dueTold(H, "star 1 2;star 3 4;", 21, 4);
        dueTold(P, "row 1 2;row 3;", NONE, 3);
        dueTold(P, "row 1 2;row 3;", 0, 1);
        dueTold(P, "row 1 2;row 3;", 2, 3);
        HelmHand x = new HelmHand();
        Testing.tell(x, W, "man 1 2;man 3 4;");
        due("MEN, further ones", x.watch(0, NONE, 0), 2);
        due("MEN, the first one", x.watch(0, 0, 1), 2);
        due("MEN, the second one", x.watch(0, 1, 0), 3);
        // One that is struck must be one that can be, all the same.
        dueFault(S, "turn 100;turn 99;", 2, 5);
        dueFault(S, "sea 100;sea 99;", 2, 4);
        dueFault(S, row("sea", 13) + "sea 1;", 3, row("sea", 12).length());
    }

    // ---- Term 1: FAULTS

    private static void term1FaultOne() {
        dueFault(S, "turn 5;x", 1, 7);
        dueFault(S, "turn 5;  x", 1, 9);
        dueFault(S, "turn 5; turn", 1, 12);
        dueFault(S, "turn 5;turn 5", 1, 13);
        dueFault(S, "turn 5;turn 5 \n", 1, 15);
        dueFault(S, "turn 5;turn 5;", 0, NONE);
        dueFault(S, "sea 1 2", 1, 7);
        dueFault(S, "sea 1 2 -", 1, 9);
        dueFault(H, "star 1 ", 1, 7);
        dueFault(H, "star 1 2", 1, 8);
        dueFault(P, "row 1", 1, 5);
        dueFault(W, "man 1 ", 1, 6);
        dueFault(W, "man 1 1", 1, 7);
        // It goes ahead of the others, wherever they are.
        dueFault(S, "turn 100;x", 1, 9);
        dueFault(S, row("sea", 13) + "x", 1, row("sea", 13).length());
        dueFault(P, "x", 1, 0);
        dueFault(P, "row;", 1, 3);
        dueFault(W, "man 4 0", 1, 7);
    }

    private static void term1TheFirstByPlace() {
        dueFault(S, "turn 100;calm 101;", 2, 5);
        dueFault(S, "turn 99;calm 101;", 2, 13);
        dueFault(S, "turn 100;" + row("sea", 13), 2, 5);
        dueFault(S, row("sea", 13) + "turn 100;", 3, row("sea", 12).length());
        dueFault(S, "sea 1 2 3 4 5 6 7 8 9 0 1 -100 2;", 2, 27);
        String four = "star 1 1;".repeat(4);
        dueFault(H, "far 100;" + four + "star 1 1;", 2, 4);
        dueFault(H, four + "star 1 1;far 100;", 3, 36);
        dueFault(W, "man 4 1;" + "man 1 1;".repeat(8), 2, 4);
        dueFault(W, "man 1 1;".repeat(9) + "man 4 1;", 3, 64);
    }

    private static void term1FaultFour() {
        dueFault(P, "", 4, 0);
        dueFault(P, " ", 4, 1);
        dueFault(P, "\n \n", 4, 3);
        dueFault(P, "row 0;", 0, NONE);
        dueFault(P, "row 0; ", 0, NONE);
        dueFault(S, " ", 0, NONE);
        dueFault(H, "", 0, NONE);
        dueFault(W, "\n", 0, NONE);
    }

    // ---- the promises

    private static void promise1NewObject() {
        HelmHand x = new HelmHand();
        for (int sort = 0; sort < 4; sort++) {
            due("p1 none of sort " + sort, x.count(sort), 0);
        }
        for (int k = 0; k < 3; k++) {
            due("p1 no image " + k, x.again(k), false);
        }
        due("p1 no SHIP", x.ship(0, 0), MISSING);
        due("p1 no HAND", x.hand(0, 0), NONE);
        due("p1 no PAPER", x.paper(0, NONE), MISSING);
        due("p1 no WATCH", x.watch(0, NONE, 0), NONE);
        due("p1 no FAULT", x.fault(0), 0);
        due("p1 no FAULT's place", x.fault(1), NONE);
        due("p1 an empty tape", x.end(1), NONE);
        // Up to its last call it answers as it should.
        for (int call = 18; call <= 512; call++) {
            due("p1 call " + call, call % 2 == 0 ? x.feed(1, 2, 3, 4, 5) : x.end(0), call % 2 == 0 ? 20 : 0);
        }
    }

    private static HelmHand withTape(int bytes) {
        HelmHand x = new HelmHand();
        for (int k = 0; k < 30; k++) {
            x.feed(0x20202020, 0x20202020, 0x20202020, 0x20202020, 0x20202020);
        }
        due("p3 end " + bytes, x.end(bytes), bytes);
        return x;
    }

    private static void promise2Feed() {
        for (int has : new int[] {0, 1, 559, 560, 579, 580}) {
            due("p2 feed behind " + has, withTape(has).feed(0, 0, 0, 0, 0), has + 20);
        }
        for (int has : new int[] {581, 599, 600}) {
            HelmHand x = withTape(has);
            due("p2 feed behind " + has, x.feed(0, 0, 0, 0, 0), NONE);
            due("p2 nothing came behind " + has, x.end(has + 1), NONE);
            due("p2 nothing went behind " + has, x.end(has), has);
            due("p2 all blanks as it was", x.text(S, NONE), 0);
        }
        HelmHand x = withTape(580);
        due("p2 just full", x.feed(0, 0, 0, 0, 0), 600);
        due("p2 one more", x.feed(0, 0, 0, 0, 0), NONE);
        due("p2 what came is there", x.text(S, NONE), NONE);
        due("p2 at its place", x.fault(1), 580);
        for (int k = 1; k <= 30; k++) {
            due("p2 feed " + k, x.feed(k, k, k, k, k), 20 * k);
        }
        due("p2 feed 31", x.feed(1, 1, 1, 1, 1), NONE);
    }

    /** Twenty bytes, each for itself: by a FAULT its place is told, by none all others are blanks. */
    private static void promise2HighestFirst() {
        for (int place = 0; place < 20; place++) {
            for (int sign : new int[] {0, 1, 127, 128, 255}) {
                int[] w = {0x20202020, 0x20202020, 0x20202020, 0x20202020, 0x20202020};
                int shift = 24 - place % 4 * 8;
                w[place / 4] = w[place / 4] & ~(255 << shift) | sign << shift;
                HelmHand x = withTape(7);
                due("p2 byte " + place, x.feed(w[0], w[1], w[2], w[3], w[4]), 27);
                due("p2 byte " + place, x.text(S, NONE), NONE);
                due("p2 byte " + place, x.fault(1), 7 + place);
            }
        }
    }

    private static void promise3End() {
        for (int has : new int[] {0, 1, 20, 599, 600}) {
            for (int n : new int[] {LEAST, -2, -1, 0, 1, has - 1, has, has + 1, 601, MOST}) {
                boolean may = n >= 0 && n <= has;
                HelmHand x = withTape(has);
                due("p3 end " + n + " of " + has, x.end(n), may ? n : NONE);
                due("p3 what is there then", x.end(may ? n : has), may ? n : has);
                due("p3 no more than that", x.end((may ? n : has) + 1), NONE);
            }
        }
        // The first bytes: what is cut off is gone, what is left is as it was.
        HelmHand x = new HelmHand();
        Testing.put(x, "far 1;far 2;far 3;");
        due("p3 end", x.end(12), 12);
        Testing.put(x, "quick 4;");
        due("p3 what is left", x.text(H, NONE), 0);
        due("p3 what is left", x.hand(0, 0), 2);
        due("p3 what came then", x.hand(0, 1), 4);
    }

    private static void dueRefused(String call, HelmHand x, int sort, int at) {
        Testing.put(x, sort >= 0 && sort < 4 ? PLAIN[sort] : "turn 1;");
        due("p4 " + call, x.text(sort, at), -2);
        due("p4 " + call + ": FAULT 0", x.fault(0), 0);
        due("p4 " + call + ": no place", x.fault(1), NONE);
        due("p4 " + call + ": the tape is empty", x.end(1), NONE);
    }

    private static void promise4HowMany() {
        for (int sort = 0; sort < 4; sort++) {
            HelmHand x = new HelmHand();
            for (int k = 0; k < ROOM[sort]; k++) {
                dueRefused("sort " + sort + " in the place of " + k, x, sort, k);
                due("p4 sort " + sort + " number " + k, Testing.tell(x, sort, PLAIN[sort]), k);
                due("p40 sort " + sort, x.count(sort), k + 1);
                for (int other = 0; other < 4; other++) {
                    due("p40 the others", other == sort ? 0 : x.count(other), 0);
                }
            }
            dueRefused("sort " + sort + ", as many as may be", x, sort, NONE);
            due("p40 sort " + sort, x.count(sort), ROOM[sort]);
        }
    }

    private static void promise4InThePlaceOfOne() {
        for (int sort = 0; sort < 4; sort++) {
            HelmHand x = new HelmHand();
            for (int k = 0; k < ROOM[sort]; k++) {
                Testing.tell(x, sort, PLAIN[sort]);
            }
            for (int at : new int[] {LEAST, -3, -2, ROOM[sort], ROOM[sort] + 1, MOST}) {
                dueRefused("sort " + sort + " in the place of " + at, x, sort, at);
            }
            for (int at = 0; at < ROOM[sort]; at++) {
                Testing.put(x, PLAIN[sort].replace("9", "1" + at));
                due("p4 in the place of " + at, x.text(sort, at), at);
                due("p40 as many as ahead", x.count(sort), ROOM[sort]);
            }
            for (int at = 0; at < ROOM[sort]; at++) {
                int told = sort == S ? x.ship(at, 0) : sort == H ? x.hand(at, 0) : sort == P ? x.paper(at, 0) : x.watch(at, 0, 1);
                due("p4 each in its place", told, 10 + at);
            }
        }
        HelmHand x = new HelmHand();
        for (int sort : new int[] {LEAST, -2, -1, 4, 5, MOST}) {
            dueRefused("no sort " + sort, x, sort, NONE);
            dueRefused("no sort " + sort, x, sort, 0);
        }
        due("p4 none came", x.count(0) + x.count(1) + x.count(2) + x.count(3), 0);
        due("p4 sort 0", Testing.tell(x, 0, PLAIN[0]), 0);
        due("p4 sort 3", Testing.tell(x, 3, PLAIN[3]), 0);
    }

    private static void promise4TheTapeIsEmptyThen() {
        for (int sort = 0; sort < 4; sort++) {
            HelmHand x = new HelmHand();
            due("p4 read", Testing.tell(x, sort, PLAIN[sort]), 0);
            due("p4 the tape is empty", x.end(1), NONE);
            due("p4 the tape is empty", x.end(0), 0);
            due("p4 FAULT", Testing.tell(x, sort, PLAIN[sort] + "?"), NONE);
            due("p4 the tape is empty", x.end(1), NONE);
            due("p4 FAULT: none came", x.count(sort), 1);
            Testing.put(x, "?");
            due("p4 FAULT in the place of one", x.text(sort, 0), NONE);
            due("p4 the tape is empty", x.end(1), NONE);
            int told = sort == S ? x.ship(0, 0) : sort == H ? x.hand(0, 0) : sort == P ? x.paper(0, 0) : x.watch(0, 0, 1);
            due("p4 FAULT: as it was", told, 9);
            due("p4 an empty text", x.text(sort, NONE), sort == P ? NONE : 1);
        }
    }

    private static void promise4NoTextIsRead() {
        HelmHand x = new HelmHand();
        for (int[] call : new int[][] {{0, 0}, {4, NONE}, {-1, NONE}, {0, -2}}) {
            due("a FAULT ahead", Testing.tell(x, S, "turn 5;turn 100;"), NONE);
            due("a FAULT ahead", x.fault(0), 2);
            due("a FAULT ahead", x.fault(1), 12);
            Testing.put(x, "?");
            due("p4 a FAULT is not found", x.text(call[0], call[1]), -2);
            due("p4 FAULT 0", x.fault(0), 0);
            due("p4 no place", x.fault(1), NONE);
        }
        Testing.tell(x, S, "");
        Testing.tell(x, S, "");
        Testing.tell(x, H, "?");
        due("p4 as many as may be", Testing.tell(x, S, "?"), -2);
        due("p4 as many as may be: FAULT 0", x.fault(0), 0);
        due("p4 as many as may be: no place", x.fault(1), NONE);
    }

    private static void promise5Fault() {
        HelmHand x = new HelmHand();
        Testing.tell(x, S, "turn 100;");
        int[] want = {NONE, NONE, 2, 5, NONE, NONE, NONE};
        int[] whats = {LEAST, -1, 0, 1, 2, 3, MOST};
        for (int i = 0; i < whats.length; i++) {
            due("p5 what " + whats[i], x.fault(whats[i]), want[i]);
        }
        // Of the latest text alone.
        Testing.tell(x, S, "turn 99;");
        due("p5 without", x.fault(0), 0);
        due("p5 without a place", x.fault(1), NONE);
        Testing.tell(x, P, "");
        due("p5 FAULT 4", x.fault(0), 4);
        due("p5 its place", x.fault(1), 0);
        x.feed(0, 0, 0, 0, 0);
        x.end(0);
        due("p5 still that", x.fault(0), 4);
        Testing.tell(x, W, "man 0 1;".repeat(9));
        due("p5 FAULT 3", x.fault(0), 3);
        due("p5 its place", x.fault(1), 64);
    }

    private static void promise6Ship() {
        HelmHand x = new HelmHand();
        due("p6 none", x.ship(0, 0), MISSING);
        Testing.tell(x, S, FULL_SHIP);
        due("p6 the last one", x.ship(0, 0), 1);
        due("p6 behind the last one", x.ship(1, 0), MISSING);
        Testing.tell(x, S, "sea 1 2 3 4 5 6 7 8 9 10 11 12;");
        for (int ship : new int[] {LEAST, -2, -1, 2, 3, MOST}) {
            for (int what : new int[] {0, 10, 20}) {
                due("p6 ship " + ship, x.ship(ship, what), MISSING);
            }
        }
        int[] told = {1, 2, 3, 4, 5, 6, -7, -8, 9, -10, 3};
        for (int what = 0; what <= 10; what++) {
            due("p6 what " + what, x.ship(0, what), told[what]);
        }
        for (int what : new int[] {LEAST, -1, 11, 12, 18, 19, 23, 24, 31, 32, MOST}) {
            due("p6 what " + what, x.ship(0, what), MISSING);
        }
        int[] seas = {11, -12, 13};
        for (int k = 0; k < 3; k++) {
            due("p6 SEA " + k, x.ship(0, 20 + k), seas[k]);
        }
        for (int k = 0; k < 12; k++) {
            due("p6 SEA " + k + " of twelve", x.ship(1, 20 + k), k + 1);
        }
        due("p6 no thirteenth", x.ship(1, 32), MISSING);
        due("p6 none ahead of the first", x.ship(1, 19), MISSING);
    }

    private static void promise7Hand() {
        HelmHand x = new HelmHand();
        due("p7 none", x.hand(0, 0), NONE);
        for (int k = 0; k < 4; k++) {
            Testing.tell(x, H, FULL_HAND.substring(0, FULL_HAND.length() - 18) + "star 5 6;".repeat(k + 1));
            due("p7 the last one", x.hand(k, 0), 1);
            due("p7 behind the last one", x.hand(k + 1, 0), NONE);
        }
        for (int hand : new int[] {LEAST, -2, -1, 4, 5, MOST}) {
            for (int what : new int[] {0, 9, 10, 20}) {
                due("p7 hand " + hand, x.hand(hand, what), NONE);
            }
        }
        for (int hand = 0; hand < 4; hand++) {
            int[] told = {1, 2, 3, 4, 5, 6, 7, 8, 1, hand + 1};
            for (int what = 0; what <= 9; what++) {
                due("p7 what " + what, x.hand(hand, what), told[what]);
            }
            for (int k = 0; k < 10; k++) {
                due("p7 from of STAR " + k + " of " + (hand + 1), x.hand(hand, 10 + k), k <= hand ? 5 : NONE);
                due("p7 to of STAR " + k + " of " + (hand + 1), x.hand(hand, 20 + k), k <= hand ? 6 : NONE);
            }
            for (int what : new int[] {LEAST, -1, 30, 31, MOST}) {
                due("p7 what " + what, x.hand(hand, what), NONE);
            }
        }
    }

    private static void promise8Paper() {
        HelmHand x = new HelmHand();
        due("p8 none", x.paper(0, NONE), MISSING);
        Testing.tell(x, P, "row 7;");
        due("p8 one", x.paper(0, NONE), 1);
        due("p8 behind the last one", x.paper(1, NONE), MISSING);
        due("p8 HEADING 0", x.paper(0, 0), 7);
        due("p8 HEADING 1", x.paper(0, 1), MISSING);
        Testing.tell(x, P, row("row", 60));
        due("p8 sixty", x.paper(1, NONE), 60);
        for (int k = 0; k < 60; k++) {
            due("p8 HEADING " + k, x.paper(1, k), (k + 1) % 10);
        }
        for (int k : new int[] {LEAST, -3, -2, 60, 61, MOST}) {
            due("p8 HEADING " + k, x.paper(1, k), MISSING);
        }
        for (int paper : new int[] {LEAST, -2, -1, 2, 3, MOST}) {
            due("p8 paper " + paper, x.paper(paper, NONE), MISSING);
            due("p8 paper " + paper, x.paper(paper, 0), MISSING);
        }
        // A shorter row has none of the longer one's.
        Testing.put(x, "row 8 9;");
        due("p8 in the place of one", x.text(P, 1), 1);
        due("p8 two", x.paper(1, NONE), 2);
        due("p8 the second", x.paper(1, 1), 9);
        due("p8 no third", x.paper(1, 2), MISSING);
    }

    private static void promise9Watch() {
        HelmHand x = new HelmHand();
        due("p9 none", x.watch(0, NONE, 0), NONE);
        Testing.tell(x, W, "");
        due("p9 no MEN", x.watch(0, NONE, 0), 0);
        due("p9 no MAN 0", x.watch(0, 0, 0), NONE);
        due("p9 behind the last one", x.watch(1, NONE, 0), NONE);
        Testing.tell(x, W, "man 1 11;man 2 12;man 3 13;");
        for (int what : new int[] {LEAST, -1, 1, 2, MOST}) {
            due("p9 how many, what " + what, x.watch(1, NONE, what), NONE);
        }
        due("p9 how many", x.watch(1, NONE, 0), 3);
        for (int k = 0; k < 3; k++) {
            due("p9 MAN " + k, x.watch(1, k, 0), k + 1);
            due("p9 MAN " + k, x.watch(1, k, 1), k + 11);
            for (int what : new int[] {LEAST, -1, 2, 3, MOST}) {
                due("p9 MAN " + k + " what " + what, x.watch(1, k, what), NONE);
            }
        }
        for (int k : new int[] {LEAST, -3, -2, 3, 4, 8, MOST}) {
            due("p9 MAN " + k, x.watch(1, k, 0), NONE);
            due("p9 MAN " + k, x.watch(1, k, 1), NONE);
        }
        for (int watch : new int[] {LEAST, -2, -1, 2, 3, MOST}) {
            due("p9 watch " + watch, x.watch(watch, NONE, 0), NONE);
            due("p9 watch " + watch, x.watch(watch, 0, 0), NONE);
        }
        Testing.put(x, "man 0 9;");
        due("p9 in the place of one", x.text(W, 1), 1);
        due("p9 one MAN", x.watch(1, NONE, 0), 1);
        due("p9 no second one", x.watch(1, 1, 1), NONE);
    }

    private static void promise40Count() {
        HelmHand x = new HelmHand();
        for (int sort : new int[] {LEAST, -2, -1, 4, 5, MOST}) {
            due("p40 sort " + sort, x.count(sort), -2);
        }
        for (int sort = 0; sort < 4; sort++) {
            due("p40 none of sort " + sort, x.count(sort), 0);
            Testing.tell(x, sort, PLAIN[sort]);
            due("p40 one of sort " + sort, x.count(sort), 1);
            Testing.tell(x, sort, PLAIN[sort]);
            due("p40 two of sort " + sort, x.count(sort), 2);
        }
    }

    private static void promise41Image() {
        HelmHand x = new HelmHand();
        for (int k : new int[] {LEAST, -2, -1, 3, 4, MOST}) {
            due("p41 image " + k, x.image(k), false);
            due("p42 again " + k, x.again(k), false);
        }
        for (int k = 0; k < 3; k++) {
            due("p42 not made yet " + k, x.again(k), false);
            due("p41 image " + k, x.image(k), true);
            due("p42 again " + k, x.again(k), true);
            due("p42 twice " + k, x.again(k), true);
            Testing.tell(x, H, "far " + k + ";");
        }
        for (int k = 2; k >= 0; k--) {
            due("p42 again " + k, x.again(k), true);
            due("p42 as image " + k + " has it", x.count(H), k);
            due("p42 as image " + k + " has it", x.hand(k - 1, 0), k - 1);
            due("p42 no more than that", x.hand(k, 0), NONE);
        }
        // A later image of one number strikes the earlier one, the others stay.
        Testing.tell(x, H, "far 77;");
        due("p41 anew", x.image(1), true);
        due("p42 again 0", x.again(0), true);
        due("p42 nothing told", x.count(H), 0);
        due("p42 again 1", x.again(1), true);
        due("p42 the later one", x.hand(0, 0), 77);
        due("p42 again 2", x.again(2), true);
        due("p42 two HANDS", x.count(H), 2);
    }

    private static void tellAll(HelmHand x) {
        for (int sort = 0; sort < 4; sort++) {
            for (int k = 0; k < ROOM[sort]; k++) {
                Testing.tell(x, sort, PLAIN[sort].replace("9", "1" + k));
            }
        }
    }

    private static void dueAll(HelmHand x, String call) {
        for (int sort = 0; sort < 4; sort++) {
            due(call + " count", x.count(sort), ROOM[sort]);
        }
        for (int k = 0; k < 4; k++) {
            due(call + " HAND " + k, x.hand(k, 0), 10 + k);
        }
        for (int k = 0; k < 2; k++) {
            due(call + " SHIP " + k, x.ship(k, 0), 10 + k);
            due(call + " PAPER " + k, x.paper(k, 0), 10 + k);
            due(call + " WATCH " + k, x.watch(k, 0, 1), 10 + k);
        }
    }

    private static void promise42Again() {
        HelmHand x = new HelmHand();
        due("p41 of nothing", x.image(0), true);
        tellAll(x);
        Testing.tell(x, S, "?");
        Testing.put(x, "man 0 5;?");
        Testing.tell(x, P, "?");
        Testing.put(x, "turn 5;?");
        due("a FAULT", x.text(S, 0), NONE);
        Testing.put(x, "turn 5;");
        due("p41 of all", x.image(2), true);
        due("p42 nothing", x.again(0), true);
        for (int sort = 0; sort < 4; sort++) {
            due("p42 nothing", x.count(sort), 0);
        }
        due("p42 no FAULT", x.fault(0), 0);
        due("p42 no place", x.fault(1), NONE);
        due("p42 an empty tape", x.end(1), NONE);
        tellAll(x);
        for (int sort = 0; sort < 4; sort++) {
            for (int k = 0; k < ROOM[sort]; k++) {
                Testing.put(x, PLAIN[sort].replace("9", "8" + (sort == P ? " 8" : "")));
                x.text(sort, k);
            }
        }
        Testing.put(x, "all other bytes");
        due("p42 all", x.again(2), true);
        dueAll(x, "p42");
        due("p42 one HEADING", x.paper(1, NONE), 1);
        due("p42 FAULT", x.fault(0), 1);
        due("p42 its place", x.fault(1), 7);
        due("p42 no more on the tape", x.end(8), NONE);
        due("p42 all of the tape", x.end(7), 7);
        due("p42 all of the tape", x.text(S, 0), 0);
        due("p42 all of the tape", x.ship(0, 0), 5);
        due("p42 once more", x.again(2), true);
        dueAll(x, "p42 once more");
        due("p42 the tape once more", x.end(7), 7);
    }
}
