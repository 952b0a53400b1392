/** Promises 1 to 9 and 40 to 42: the tape, texts and their FAULTS, what is told, images. */
final class TellTest {
    private static final int S = Testing.SHIP;
    private static final int H = Testing.HAND;
    private static final int P = Testing.PAPER;
    private static final int W = Testing.WATCH;

    public static void main(String[] args) {
        newObject();
        feedAndEnd();
        textAndItsPlaces();
        faultsOfTheGrammar();
        faultsOfNumbers();
        faultsOfRows();
        shipTold();
        handTold();
        paperTold();
        watchTold();
        images();
        Testing.close("TellTest");
    }

    private static void due(String call, long got, long want) {
        Testing.due(call, got, want);
    }

    private static void newObject() {
        HelmHand x = new HelmHand();
        for (int sort = 0; sort < 4; sort++) {
            due("p1 count " + sort, x.count(sort), 0);
        }
        for (int k = -1; k < 4; k++) {
            due("p1 again " + k, x.again(k) ? 1 : 0, 0);
        }
        due("p1 fault", x.fault(0), 0);
        due("p1 fault's place", x.fault(1), -1);
        due("p1 tape", x.end(1), -1);
        due("p40 count", x.count(4), -2);
        due("p40 count", x.count(-1), -2);
        due("NONE", HelmHand.NONE, -1);
    }

    private static void feedAndEnd() {
        HelmHand x = new HelmHand();
        due("p3 end of none", x.end(0), 0);
        for (int k = 1; k <= 30; k++) {
            due("p2 feed " + k, x.feed(0, -1, 7, 8, 9), 20 * k);
        }
        due("p2 feed, full", x.feed(1, 2, 3, 4, 5), -1);
        due("p3 nothing came", x.end(601), -1);
        due("p3 end", x.end(600), 600);
        due("p3 end", x.end(-1), -1);
        due("p3 end", x.end(581), 581);
        due("p2 one byte too many", x.feed(0, 0, 0, 0, 0), -1);
        due("p3 end", x.end(580), 580);
        due("p2 just full", x.feed(0, 0, 0, 0, 0), 600);
        due("p3 end", x.end(Integer.MIN_VALUE), -1);
        due("p3 end", x.end(0), 0);
        due("p3 end is gone", x.end(1), -1);
        due("p2 highest first", x.feed(0x66617220, 0x373b2020, 0x20202020, 0x0a0a0a0a, 0x20202020), 20);
        due("p2 'far 7;'", x.text(1, -1), 0);
        due("p2 'far 7;'", x.hand(0, 0), 7);
        // What end() cuts off must not come again with the next bytes.
        x = new HelmHand();
        Testing.put(x, "far 12345678;;;;;;;;;");
        x.end(5);
        Testing.put(x, ";");
        due("p3 first n bytes", x.text(1, -1), 0);
        due("p3 first n bytes", x.hand(0, 0), 1);
    }

    private static void textAndItsPlaces() {
        HelmHand x = new HelmHand();
        int[] room = {2, 4, 2, 2};
        String[] texts = {"turn 9;", "far 9;", "row 9;", "man 0 9;"};
        for (int sort = 0; sort < 4; sort++) {
            Testing.put(x, texts[sort]);
            due("p4 in the place of none " + sort, x.text(sort, 0), -2);
            due("p4 tape is empty", x.end(1), -1);
            for (int k = 0; k < room[sort]; k++) {
                due("p4 further one " + sort, Testing.tell(x, sort, texts[sort]), k);
                due("p40 count", x.count(sort), k + 1);
            }
            due("p4 as many as may be " + sort, Testing.tell(x, sort, texts[sort]), -2);
            due("p4 FAULT 0", x.fault(0), 0);
            due("p5 no place", x.fault(1), -1);
            Testing.put(x, texts[sort].replace('9', '8'));
            due("p4 in the place of one " + sort, x.text(sort, 1), 1);
            due("p40 count", x.count(sort), room[sort]);
            Testing.put(x, texts[sort]);
            due("p4 none such " + sort, x.text(sort, room[sort]), -2);
            due("p4 none such " + sort, x.text(sort, -2), -2);
        }
        due("p4 place of one", x.ship(1, 0), 8);
        due("p4 the other one", x.ship(0, 0), 9);
        due("p4 place of one", x.hand(1, 0), 8);
        due("p4 place of one", x.paper(1, 0), 8);
        due("p4 place of one", x.watch(1, 0, 1), 8);
        Testing.put(x, "?");
        due("p4 FAULT", x.text(0, 1), -1);
        due("p5 FAULT", x.fault(0), 1);
        due("p5 place", x.fault(1), 0);
        due("p5 another what", x.fault(2), -1);
        due("p5 another what", x.fault(-1), -1);
        due("p4 FAULT leaves the SHIP", x.ship(1, 0), 8);
        due("p4 tape is empty", x.end(1), -1);
        Testing.put(x, "?");
        due("p4 no such sort", x.text(4, -1), -2);
        due("p4 no text is read", x.fault(0), 0);
        Testing.put(x, "?");
        due("p4 no such sort", x.text(-1, -1), -2);
        due("p4 tape is empty", x.end(1), -1);
        Testing.put(x, "calm 3;");
        due("p4 in the place of one", x.text(0, 0), 0);
        due("p4 all of it is new", x.ship(0, 0), 5);
        Testing.tell(x, 0, "wind 100;");
        due("p5 none was read", x.fault(0), 0);
        Testing.put(x, "turn 100;");
        due("p4 a FAULT", x.text(0, 0), -1);
        Testing.put(x, "turn 99;");
        due("p4 after a FAULT", x.text(0, 0), 0);
        due("p5 without", x.fault(0), 0);
        due("p5 without", x.fault(1), -1);
    }

    private static void faultsOfTheGrammar() {
        Testing.dueFault(S, "", 0, -1);
        Testing.dueFault(H, " \n ", 0, -1);
        Testing.dueFault(W, "", 0, -1);
        Testing.dueFault(S, "turn5;calm\n5 ;", 0, -1);
        Testing.dueFault(S, "wind-5;trim - 5;start-1-2;sea 1-2 - 3;", 0, -1);
        Testing.dueFault(S, "turn", 1, 4);
        Testing.dueFault(S, "turn 5  ", 1, 8);
        Testing.dueFault(S, "turn ;", 1, 5);
        Testing.dueFault(S, "turn -5;", 1, 5);
        Testing.dueFault(S, "turns 5;", 1, 0);
        Testing.dueFault(S, "tur 5;", 1, 0);
        Testing.dueFault(S, "turn 5 5;", 1, 7);
        Testing.dueFault(S, "turn 5;;", 1, 7);
        Testing.dueFault(S, "turn 12345;", 1, 5);
        Testing.dueFault(S, "turn 5;Turn 5;", 1, 7);
        Testing.dueFault(S, "turn 5;\tturn 5;", 1, 7);
        Testing.dueFault(S, "turn 5\u00e4;", 1, 6);
        Testing.dueFault(S, "far 5;", 1, 0);
        Testing.dueFault(S, "start 1;", 1, 7);
        Testing.dueFault(S, "start 1 2 3;", 1, 10);
        Testing.dueFault(S, "wind - - 1;", 1, 7);
        Testing.dueFault(S, "wind 1 1;", 1, 7);
        Testing.dueFault(S, "sea;", 1, 3);
        Testing.dueFault(S, "sea 1 -;", 1, 7);
        Testing.dueFault(S, "sea 1 x;", 1, 6);
        Testing.dueFault(S, "5;", 1, 0);
        Testing.dueFault(S, "-", 1, 0);
        Testing.dueFault(H, "easy 1;", 1, 5);
        Testing.dueFault(H, "easy", 1, 4);
        Testing.dueFault(H, "star 1;", 1, 6);
        Testing.dueFault(H, "star 1 -2;", 1, 7);
        Testing.dueFault(H, "star -1 2;", 1, 5);
        Testing.dueFault(H, "star;", 1, 4);
        Testing.dueFault(H, "far;", 1, 3);
        Testing.dueFault(H, "far z;", 1, 4);
        Testing.dueFault(H, "farz 1;", 1, 0);
        Testing.dueFault(H, "star 1 2 3;", 1, 9);
        Testing.dueFault(H, "far -1;", 1, 4);
        Testing.dueFault(P, "row;", 1, 3);
        Testing.dueFault(P, "row 1; 2;", 1, 7);
        Testing.dueFault(P, "row 12345;", 1, 4);
        Testing.dueFault(W, "man 0;", 1, 5);
        Testing.dueFault(W, "man 0 1 2;", 1, 8);
        Testing.dueFault(W, "man;", 1, 3);
        Testing.dueFault(W, "man -0 1;", 1, 4);
        Testing.dueFault(W, "man 0 -1;", 1, 6);
        // FAULT 1 goes ahead of all others, wherever it is.
        Testing.dueFault(S, "turn 100;calm 101;x", 1, 18);
        Testing.dueFault(S, "turn 100;calm 101", 1, 17);
    }

    private static void faultsOfNumbers() {
        String[] ships = {"turn 0;turn 99;", "calm 0;calm 100;", "lag 0;lag 9;", "most 1;most 35;", "gear 1;gear 35;",
            "rub 0;rub 99;", "wind -99;wind 99;", "trim -99;trim 99;", "start -999 -999;start 999 999;", "sea -99 99;",
            "wind -0;"};
        for (String text : ships) {
            Testing.dueFault(S, text, 0, -1);
        }
        Testing.dueFault(S, "turn 100;", 2, 5);
        Testing.dueFault(S, "calm 101;", 2, 5);
        Testing.dueFault(S, "lag 10;", 2, 4);
        Testing.dueFault(S, "most 0;", 2, 5);
        Testing.dueFault(S, "most 36;", 2, 5);
        Testing.dueFault(S, "gear 0;", 2, 5);
        Testing.dueFault(S, "gear 36;", 2, 5);
        Testing.dueFault(S, "rub 100;", 2, 4);
        Testing.dueFault(S, "wind -100;", 2, 6);
        Testing.dueFault(S, "wind 100;", 2, 5);
        Testing.dueFault(S, "trim -100;", 2, 6);
        Testing.dueFault(S, "trim 9999;", 2, 5);
        Testing.dueFault(S, "trim 100;", 2, 5);
        Testing.dueFault(S, "start 0 1000;", 2, 8);
        Testing.dueFault(S, "sea 100;", 2, 4);
        Testing.dueFault(S, "start 1000 0;", 2, 6);
        Testing.dueFault(S, "start 0 -1000;", 2, 9);
        Testing.dueFault(S, "start -1000 1000;", 2, 7);
        Testing.dueFault(S, "sea 1 - 100;", 2, 8);
        Testing.dueFault(S, "turn 100;turn 5;", 2, 5);
        Testing.dueFault(S, "turn 5;calm 999;lag 99;", 2, 12);
        String[] hands = {"far 99;", "quick 99;", "been 99;", "dead 999;", "point 1;point 999;", "wrong 0;wrong 999;",
            "tired 0;tired 999;", "slips 0;slips 100;", "far 0;quick 0;been 0;dead 0;", "star 0 0;star 999 999;"};
        for (String text : hands) {
            Testing.dueFault(H, text, 0, -1);
        }
        Testing.dueFault(H, "far 100;", 2, 4);
        Testing.dueFault(H, "quick 100;", 2, 6);
        Testing.dueFault(H, "been 100;", 2, 5);
        Testing.dueFault(H, "dead 1000;", 2, 5);
        Testing.dueFault(H, "point 0;", 2, 6);
        Testing.dueFault(H, "point 1000;", 2, 6);
        Testing.dueFault(H, "wrong 1000;", 2, 6);
        Testing.dueFault(H, "tired 1000;", 2, 6);
        Testing.dueFault(H, "slips 101;", 2, 6);
        Testing.dueFault(H, "star 5 4;", 2, 7);
        Testing.dueFault(H, "star 1000 1000;", 2, 5);
        Testing.dueFault(H, "star 1 1000;", 2, 7);
        Testing.dueFault(W, "man 3 200;man 0 1;", 0, -1);
        Testing.dueFault(W, "man 4 1;", 2, 4);
        Testing.dueFault(W, "man 0 0;", 2, 6);
        Testing.dueFault(W, "man 0 201;", 2, 6);
    }

    private static void faultsOfRows() {
        String twelve = "sea 1 2 3 4 5 6 7 8 9 10 11 12";
        Testing.dueFault(S, twelve + ";", 0, -1);
        Testing.dueFault(S, twelve + ";" + twelve + ";", 0, -1);
        Testing.dueFault(S, twelve + " -13;", 3, 31);
        Testing.dueFault(S, twelve + " 13 14;", 3, 31);
        Testing.dueFault(S, twelve + " - 113;", 3, 31);
        Testing.dueFault(S, twelve + " 113;", 2, 31);
        Testing.dueFault(S, "turn 100;" + twelve + " 113;", 2, 5);
        Testing.dueFault(S, twelve + " 13;sea 1;turn 100;", 3, 31);
        String four = "star 0 1;star 0 1;star 0 1;star 0 1;";
        Testing.dueFault(H, four, 0, -1);
        Testing.dueFault(H, four + "star 0 1;", 3, 36);
        Testing.dueFault(H, four + "star 5 1;", 3, 36);
        Testing.dueFault(H, "star 9 1;" + four, 2, 7);
        Testing.dueFault(P, "row" + " 1".repeat(60) + ";", 0, -1);
        Testing.dueFault(P, "row" + " 1".repeat(60) + " - 7;", 3, 124);
        Testing.dueFault(P, "row" + " 1".repeat(60) + ";row 7;", 3, 128);
        Testing.dueFault(P, "", 4, 0);
        Testing.dueFault(P, "  \n", 4, 3);
        Testing.dueFault(W, "man 0 1;".repeat(8), 0, -1);
        Testing.dueFault(W, "man 0 1;".repeat(9), 3, 64);
        Testing.dueFault(W, "man 0 1;".repeat(8) + "man 9 1;", 3, 64);
    }

    private static void shipTold() {
        HelmHand x = new HelmHand();
        due("p6 none such", x.ship(0, 0), Testing.MISSING);
        Testing.tell(x, S, "");
        int[] first = {5, 10, 0, 35, 35, 0, 0, 0, 0, 0, 1};
        for (int what = 0; what < first.length; what++) {
            due("p6 at first " + what, x.ship(0, what), first[what]);
        }
        due("p6 SEA at first", x.ship(0, 20), 0);
        due("p6 one SEA", x.ship(0, 21), Testing.MISSING);
        Testing.tell(x, S, "sea 9 9 9;turn 7;turn 1;calm 2;lag 3;most 4;gear 5;rub 6;wind -7;trim -8;start 9 -10;sea 11 -12;");
        int[] told = {1, 2, 3, 4, 5, 6, -7, -8, 9, -10, 2};
        for (int what = 0; what < told.length; what++) {
            due("p6 told " + what, x.ship(1, what), told[what]);
        }
        due("p6 SEA 0", x.ship(1, 20), 11);
        due("p6 SEA 1", x.ship(1, 21), -12);
        for (int what : new int[] {-1, 11, 19, 22, 32, Integer.MAX_VALUE, Integer.MIN_VALUE}) {
            due("p6 another what " + what, x.ship(1, what), Testing.MISSING);
        }
        due("p6 none such", x.ship(2, 0), Testing.MISSING);
        due("p6 none such", x.ship(-1, 0), Testing.MISSING);
    }

    private static void handTold() {
        HelmHand x = new HelmHand();
        due("p7 none such", x.hand(0, 0), -1);
        Testing.tell(x, H, "");
        int[] first = {0, 0, 0, 0, 1, 0, 0, 0, 0, 0};
        for (int what = 0; what < first.length; what++) {
            due("p7 at first " + what, x.hand(0, what), first[what]);
        }
        due("p7 no STAR", x.hand(0, 10), -1);
        due("p7 no STAR", x.hand(0, 20), -1);
        Testing.tell(x, H, "far 1;quick 2;been 3;dead 4;point 5;wrong 6;tired 7;slips 8;easy;star 10 11;far 9;star 0 999;");
        int[] told = {9, 2, 3, 4, 5, 6, 7, 8, 1, 2, 10, 0};
        for (int what = 0; what < told.length; what++) {
            due("p7 told " + what, x.hand(1, what), told[what]);
        }
        due("p7 to", x.hand(1, 20), 11);
        due("p7 to", x.hand(1, 21), 999);
        for (int what : new int[] {-1, 12, 19, 22, 30, Integer.MAX_VALUE}) {
            due("p7 another what " + what, x.hand(1, what), -1);
        }
        due("p7 none such", x.hand(2, 0), -1);
        due("p7 none such", x.hand(-1, 0), -1);
    }

    private static void paperTold() {
        HelmHand x = new HelmHand();
        due("p8 none such", x.paper(0, -1), Testing.MISSING);
        Testing.tell(x, P, "row 65 -2;row -9999 9999;");
        due("p8 how many", x.paper(0, -1), 4);
        int[] row = {65, -2, -9999, 9999};
        for (int k = 0; k < 4; k++) {
            due("p8 HEADING " + k, x.paper(0, k), row[k]);
        }
        due("p8 none such", x.paper(0, 4), Testing.MISSING);
        due("p8 none such", x.paper(0, -2), Testing.MISSING);
        due("p8 none such", x.paper(1, 0), Testing.MISSING);
        due("p8 none such", x.paper(-1, -1), Testing.MISSING);
    }

    private static void watchTold() {
        HelmHand x = new HelmHand();
        due("p9 none such", x.watch(0, -1, 0), -1);
        Testing.tell(x, W, "");
        due("p9 no MEN", x.watch(0, -1, 0), 0);
        Testing.tell(x, W, "man 3 200;man 0 1;");
        due("p9 how many", x.watch(1, -1, 0), 2);
        due("p9 another what", x.watch(1, -1, 1), -1);
        due("p9 HAND", x.watch(1, 0, 0), 3);
        due("p9 SECONDS", x.watch(1, 0, 1), 200);
        due("p9 HAND", x.watch(1, 1, 0), 0);
        due("p9 SECONDS", x.watch(1, 1, 1), 1);
        due("p9 another what", x.watch(1, 0, 2), -1);
        due("p9 another what", x.watch(1, 0, -1), -1);
        due("p9 none such", x.watch(1, 2, 0), -1);
        due("p9 none such", x.watch(1, -2, 0), -1);
        due("p9 none such", x.watch(2, 0, 0), -1);
    }

    private static void images() {
        HelmHand x = new HelmHand();
        due("p41 image 3", x.image(3) ? 1 : 0, 0);
        due("p41 image -1", x.image(-1) ? 1 : 0, 0);
        due("p41 image 0", x.image(0) ? 1 : 0, 1);
        Testing.tell(x, S, "turn 1;sea 1 2;");
        Testing.tell(x, H, "far 1;star 1 2;easy;");
        Testing.tell(x, P, "row 1 2;");
        Testing.tell(x, W, "man 0 3;");
        Testing.tell(x, W, "man 0 300;");
        Testing.put(x, "far 44;");
        due("p41 image 2", x.image(2) ? 1 : 0, 1);
        Testing.put(x, "x");
        x.text(1, -1);
        for (int sort = 0; sort < 4; sort++) {
            Testing.put(x, new String[] {"turn 2;sea 3 4 5;", "far 2;star 3 4;star 5 6;", "row 3;", "man 1 4;man 2 5;"}[sort]);
            due("told anew", x.text(sort, 0), 0);
        }
        Testing.tell(x, S, "");
        due("p42 none such", x.again(1) ? 1 : 0, 0);
        due("p42 none such", x.again(3) ? 1 : 0, 0);
        due("p42 again", x.again(2) ? 1 : 0, 1);
        due("p42 FAULT", x.fault(0), 2);
        due("p42 FAULT's place", x.fault(1), 6);
        int[] counts = {1, 1, 1, 1};
        for (int sort = 0; sort < 4; sort++) {
            due("p42 count", x.count(sort), counts[sort]);
        }
        due("p42 SHIP", x.ship(0, 0) * 100 + x.ship(0, 10) * 10 + x.ship(0, 21), 122);
        due("p42 HAND", x.hand(0, 0) * 100 + x.hand(0, 9) * 10 + x.hand(0, 20), 112);
        due("p42 EASY", x.hand(0, 8), 1);
        due("p42 PAPER", x.paper(0, 1), 2);
        due("p42 WATCH", x.watch(0, 0, 1), 3);
        due("p42 the tape, too", x.end(7), 7);
        due("p42 the tape, too", x.text(1, -1), 1);
        due("p42 the tape, too", x.hand(1, 0), 44);
        // What comes behind an image leaves it as it was.
        due("p42 again", x.again(2) ? 1 : 0, 1);
        due("p42 count", x.count(1), 1);
        due("p42 again", x.again(0) ? 1 : 0, 1);
        due("p42 as a new one", x.count(0) + x.count(1) + x.count(2) + x.count(3) + x.fault(0), 0);
        due("p42 as a new one", x.end(1), -1);
        due("p41 image over one", x.image(2) ? 1 : 0, 1);
        Testing.tell(x, S, "");
        due("p42 again", x.again(2) ? 1 : 0, 1);
        due("p42 count", x.count(0), 0);
    }
}
