/** Every promise by answers worked out by hand: ordinary inputs, edges, wrong inputs. */
public final class PromiseTest {
    static final long NOF = -4611686018427387904L;
    static final int LOW = Integer.MIN_VALUE;
    static final int HIGH = Integer.MAX_VALUE;
    static int wrong = 0;

    /** Two sorts; mark 0 is free, mark 1 costs the better sort 80. */
    static final String PAIR = "s50 100 0;s50 200 0;m0 0 0;m0 150 80;";
    /** Three sorts. Fits 0 (all in mark 0) and 50 (the best in mark 2) are sure. */
    static final String THREE = "s30 9 0;s30 19 0;s40 59 5;m0 0 0 0;m0 30 20 10;m0 60 45 20;";

    static void due(int promise, String call, long got, long want) {
        if (got != want) {
            wrong++;
            System.out.println("promise " + promise + ": " + call + " answered " + got + ", due is " + want);
        }
    }

    static int read(FurrowFair x, String text) {
        x.row(7, 0, text.length());
        for (int i = 0; i < text.length(); i++) {
            x.put(7, i, text.charAt(i));
        }
        return x.market(7);
    }

    static FurrowFair fair(String text) {
        FurrowFair x = new FurrowFair();
        int answer = read(x, text);
        if (answer <= 0) {
            due(2, "market of " + text, answer, 1);
        }
        return x;
    }

    static void line(FurrowFair x, int d, int... pays) {
        x.row(d, 1, pays.length);
        for (int i = 0; i < pays.length; i++) {
            x.put(d, i, pays[i]);
        }
    }

    /** 0: an element came; 1: IllegalArgumentException; 2: IllegalStateException. */
    static int thrownBy(FurrowFair x, int d, int i) {
        try {
            x.element(d, i);
            return 0;
        } catch (IllegalArgumentException e) {
            return 1;
        } catch (IllegalStateException e) {
            return 2;
        }
    }

    static void newObject() {
        FurrowFair x = new FurrowFair();
        due(1, "sort", x.sort(0, 0), -3);
        due(1, "sort of none", x.sort(9, 9), -3);
        for (int w = 0; w < 5; w++) {
            due(1, "count " + w, x.count(w), 0);
        }
        due(1, "count 5", x.count(5), -1);
        due(1, "image", x.image(), -3);
        due(1, "restore", x.restore(), -3);
        for (int d = 0; d < 8; d++) {
            due(1, "breadth", x.breadth(d), -11);
        }
        due(3, "sort", x.sort(0, 0), -3);
        due(4, "mark", x.mark(9, 0), -3);
        due(5, "change", x.change(9, 9, -1), -3);
        due(6, "cost", x.cost(9, 0, 0), -3);
        due(7, "think", x.think(9, 0), -3);
        due(8, "pay", x.pay(0, 0, 0), NOF);
        due(9, "gets", x.gets(0, 0, 0), NOF);
        due(10, "rather", x.rather(-1), -3);
        due(11, "next", x.next(-9), -3);
        due(12, "all", x.all(9), -3);
        due(13, "falls", x.falls(-1), -3);
        due(14, "barred", x.barred(-1, 0, 0), -3);
        due(15, "lots", x.lots(0, 0, 0, 0), NOF);
        due(16, "apart", x.apart(), -3);
        due(17, "justNot", x.justNot(-1), -3);
        due(18, "waste", x.waste(-1), -3);
        due(19, "gain", x.gain(0, 0, 0, 0), NOF);
        due(20, "inOne", x.inOne(0, 0), -3);
        due(21, "bars", x.bars(-1), -3);
        due(22, "leastBar", x.leastBar(9), -3);
        due(23, "makes", x.makes(99, 0), -3);
        due(24, "loses", x.loses(-1), -3);
        due(25, "broken", x.broken(8), -3);
        due(26, "edge", x.edge(-1, 0, 0), -3);
        due(27, "run", x.run(-1, 0, 0, 0), -3);
        due(28, "rate", x.rate(-1), -3);
        due(29, "years", x.years(0, 0, 1, 0), NOF);
        due(30, "ratherOver", x.ratherOver(-1, 0), -3);
        due(31, "bestTax", x.bestTax(-1, 0), -3);
        due(32, "moved", x.moved(0, 0, 0), -3);
        due(33, "losers", x.losers(-1, 0), -3);
        due(34, "standing", x.standing(), -3);
    }

    static void reading() {
        String[] texts = {
            "", "x", "s", "s5", "s50 1", "s50 1 2", "s50  1 2;", "s50 1 2 3;", "s50 1;", "s01 1 2;", "s1000 1 2;", "s-1 1 2;",
            "s100 5 9;m0 0;t0 0;", "s100 5 9;m0 0;t0 0", "s100 5 9;m0 0;t0 0 ;", "s100 5 9;m0 0;t0;", "s100 5 9;m0 0;t0 0 0;",
            "s0 5 9;m0 0;", "s101 5 9;m0 0;", "s100 5 9;m100 0;", "s100 999 999;m99 999;", "s100 5 9;m0;", "s100 5 9;m0 0 0 0 0 0 0;",
            "s100 5 9;m0 0;s1 5 9;", "s100 5 9;m0 0;t1 0;", "s100 5 9;m0 0;t0 1;", "s100 5 9;t0 0;m0 0;", "s100 5 9;",
            "s99 5 9;m0 0;", "s60 5 9;s60 5 9;m0 0 0;", "m0;", "m5;s100 0 0;", "s25 0 0;s25 0 0;s25 0 0;s25 0 0;s25 0 0;",
            "s100 0 0;m0 0;m0 0;m0 0;m0 0;m0 0;", "s0 5 9;m0 0; ", "s100 5 9;m 0;", "s100 5 9;m0 0 ;", "s100 5 9;m0  0;", "S100 5 9;m0 0;",
            "s99 5 9;t0 0;", "s100 5 9;m0 0;t0 0;t0 0;m1 2;", "s100 5 9\u00e9m0 0;",
        };
        int[] want = {
            -1000, -1000, -1001, -1002, -1005, -1007, -1004, -1007, -1005, -1002, -1004, -1001,
            3, -1018, -1018, -1016, -1018,
            -2000, -2000, -2009, 2, -2009, -2009,
            -2014, -2014, -2014, -2009, -3000,
            -3000, -3000, -3000, -2003, -2032,
            -2029, -1012, -1010, -1014, -1012, -1000,
            -2008, 5, -1008,
        };
        for (int i = 0; i < texts.length; i++) {
            FurrowFair x = new FurrowFair();
            due(2, "market of '" + texts[i] + "'", read(x, texts[i]), want[i]);
            due(2, "count after '" + texts[i] + "'", x.count(0) > 0 ? 1 : 0, want[i] > 0 ? 1 : 0);
        }
        FurrowFair x = fair(PAIR);
        due(2, "shelf -1", x.market(-1), -1);
        due(2, "shelf 8", x.market(8), -1);
        due(2, "bare shelf", x.market(0), -11);
        x.row(0, 1, 5);
        due(2, "shorts", x.market(0), -12);
        x.keep(0, 1, 0, 0);
        due(2, "a fit", x.market(0), -12);
        x.rate(7);
        due(2, "a fault", read(x, "s99 5 9;m0 0;"), -3000);
        due(2, "nothing changes by a fault", x.count(3), 300);
        due(2, "nor the rate", x.rate(7), 7);
        due(2, "another market", read(x, "s100 5 9;m3 4;t0 0;"), 3);
        due(2, "in place of the one ahead", x.count(3), 5);
        due(28, "rate of a new market", x.rate(1), 0);
    }

    static void tellingAndChanging() {
        FurrowFair x = fair("s40 10 1;s60 20 2;m3 4 5;m6 7 8;t1 0;");
        due(3, "chance", x.sort(1, 0), 60);
        due(3, "worth", x.sort(0, 1), 10);
        due(3, "away", x.sort(1, 2), 2);
        due(3, "no sort", x.sort(2, 0), -1);
        due(3, "no sort", x.sort(-1, 0), -1);
        due(3, "no what", x.sort(0, 3), -1);
        due(3, "no what", x.sort(0, -1), -1);
        due(4, "use", x.mark(0, -1), 3);
        due(4, "cost", x.mark(1, 0), 7);
        due(4, "open", x.mark(0, -2), -4);
        due(4, "told", x.mark(1, -2), 0);
        due(4, "no mark", x.mark(2, 0), -1);
        due(4, "no mark", x.mark(-1, 0), -1);
        due(4, "no sort", x.mark(0, 2), -1);
        due(4, "no sort", x.mark(0, -3), -1);
        due(5, "worth", x.change(0, 0, 999), 10);
        due(5, "worth", x.sort(0, 1), 999);
        due(5, "away", x.change(1, 1, 0), 2);
        due(5, "away", x.sort(1, 2), 0);
        due(5, "too much", x.change(0, 0, 1000), -1);
        due(5, "too little", x.change(0, 0, -1), -1);
        due(5, "no what", x.change(0, 2, 5), -1);
        due(5, "no sort", x.change(2, 0, 5), -1);
        due(5, "refused changes nothing", x.sort(0, 1), 999);
        due(6, "cost", x.cost(1, 1, 999), 8);
        due(6, "cost", x.mark(1, 1), 999);
        due(6, "use", x.cost(0, -1, 99), 3);
        due(6, "use", x.mark(0, -1), 99);
        due(6, "use too much", x.cost(0, -1, 100), -1);
        due(6, "cost too much", x.cost(0, 0, 1000), -1);
        due(6, "cost too little", x.cost(0, 0, -1), -1);
        due(6, "no mark", x.cost(2, 0, 1), -1);
        due(6, "no sort", x.cost(0, 2, 1), -1);
        due(6, "no sort", x.cost(0, -2, 1), -1);
        due(7, "told", x.think(0, 1), -4);
        due(7, "other", x.think(0, 0), 1);
        due(7, "open", x.think(0, -1), 0);
        due(7, "open", x.mark(0, -2), -4);
        due(7, "no mark", x.think(2, 0), -1);
        due(7, "no sort", x.think(0, 2), -1);
        due(7, "no sort", x.think(0, -2), -1);
        due(37, "sorts", x.count(0), 2);
        due(37, "marks", x.count(1), 2);
        due(37, "told thoughts", x.count(2), 1);
        due(37, "worth", x.count(3), 1019);
        due(37, "costs", x.count(4), 4 + 5 + 7 + 999);
        due(37, "others", x.count(-1), -1);
        due(37, "others", x.count(5), -1);
    }

    static void payAndGets() {
        FurrowFair x = fair("s30 10 0;s20 25 7;s50 41 3;m2 1 1 1;m5 9 8 7;");
        // Fit 25: sorts 0 and 1 in mark 0, sort 2 in mark 1: (300 + 500) / 50 + 2 = 18.
        due(8, "made by two", x.pay(25, 0, 0), 18);
        due(8, "made by two", x.pay(25, 0, 1), 1);
        // Fit 5: sorts 0 and 2 in mark 0: (300 + 2050) / 80 + 2 = 251 / 8.
        due(8, "least terms", x.pay(5, 0, 0), 251);
        due(8, "least terms", x.pay(5, 0, 1), 8);
        due(8, "not made, open: the least worth", x.pay(0, 1, 0), 15);
        x.think(1, 2);
        due(8, "not made, told", x.pay(0, 1, 0), 46);
        due(8, "told where it is made", x.pay(25, 1, 0), 46);
        due(8, "told where another makes it", x.pay(5, 1, 0), 30);
        due(8, "no fit", x.pay(125, 0, 0), NOF);
        due(8, "no fit", x.pay(2, 0, 0), NOF);
        due(8, "no fit", x.pay(-1, 0, 0), NOF);
        due(8, "no mark", x.pay(0, 2, 0), NOF);
        due(8, "no mark", x.pay(0, -1, 0), NOF);
        due(8, "no part", x.pay(0, 0, 2), NOF);
        due(8, "no part", x.pay(0, 0, -1), NOF);
        due(9, "pay less cost", x.gets(5, 2, 0), 243);
        due(9, "pay less cost", x.gets(5, 2, 1), 8);
        due(9, "away", x.gets(4 * 5, 1, 0), 7);
        due(9, "away", x.gets(4 * 5, 1, 1), 1);
        x.cost(1, 1, 900);
        due(9, "below 0", x.gets(5, 1, 0), -870);
        due(9, "no fit", x.gets(3, 1, 0), NOF);
        due(9, "no sort", x.gets(0, 3, 0), NOF);
        due(9, "no sort", x.gets(0, -1, 0), NOF);
        due(9, "no part", x.gets(0, 0, 2), NOF);
        x.change(0, 0, 0);
        x.cost(0, -1, 0);
        due(8, "nought", x.pay(120, 0, 0), 0);
        due(8, "nought", x.pay(120, 0, 1), 1);
    }

    static void rathers() {
        FurrowFair x = fair(PAIR);
        due(10, "sure", x.rather(0), -4);
        due(10, "sure", x.rather(5), -4);
        // Fit 1: sort 0 in mark 1 (pay 100 less 150), sort 1 in mark 0 (pay 200).
        due(10, "the first mark", x.rather(1), 0);
        // Fit 24: all away: mark 0 is thought 100.
        due(10, "from away", x.rather(24), 0);
        // Fit 20: sort 1 away; mark 0 pays 100 more.
        due(10, "the second sort", x.rather(20), 10);
        due(10, "no fit", x.rather(2), -1);
        due(10, "no fit", x.rather(25), -1);
        due(10, "no fit", x.rather(LOW), -1);
        x.change(0, 1, 151);
        due(10, "away behind all", x.rather(0), 4);
        x.change(0, 1, 150);
        due(10, "as much is not more", x.rather(0), -4);
        due(11, "first", x.next(-1), 0);
        x.change(0, 1, 0);
        due(11, "second", x.next(0), 5);
        due(11, "none", x.next(5), -4);
        due(11, "far", x.next(HIGH), -4);
        due(11, "below -1", x.next(-2), -1);
        due(11, "below -1", x.next(LOW), -1);
        due(12, "sure", x.all(0), 2);
        // Told the better sort, mark 1 draws sort 1 (200 - 80 over 150) only where it is cheaper.
        x.cost(1, 1, 40);
        x.think(1, 1);
        due(12, "with what is told", x.all(0), 1);
        due(12, "all open", x.all(1), 2);
        due(12, "told stays told", x.mark(1, -2), 1);
        due(12, "no what", x.all(3), -1);
        due(12, "no what", x.all(-1), -1);
    }

    static void secondThought() {
        FurrowFair x = fair(THREE);
        due(12, "sure", x.all(0), 2);
        due(12, "sure and left", x.all(2), 1);
        // All in mark 0 get 32. Mark 2: 59 - 60, 59 - 45 are below it, 59 - 20 is not: sort 2 is thought, and would go.
        due(13, "falls by mark 2, sort 2", x.falls(0), 22);
        due(14, "barred", x.barred(0, 1, 0), 1);
        due(14, "not barred", x.barred(0, 1, 1), 0);
        due(14, "barred", x.barred(0, 2, 1), 1);
        due(14, "not barred", x.barred(0, 2, 2), 0);
        x.think(2, 0);
        due(13, "whatever is told", x.falls(0), 22);
        due(14, "made", x.barred(0, 0, 0), -3);
        due(14, "no mark", x.barred(0, 3, 0), -1);
        due(14, "no sort", x.barred(0, 1, 3), -1);
        due(14, "no fit", x.barred(3, 1, 0), -1);
        due(14, "not sure", x.barred(35, 0, 0), -3);
        due(13, "no fit", x.falls(-1), -1);
        due(13, "not sure", x.falls(35), -3);
        int left = x.next(0);
        due(13, "left", x.falls(left), -4);
        // 59 less 27 is as much as 32: not less, so not barred; and it would not get more there.
        x.cost(2, 2, 27);
        due(14, "as much is not less", x.barred(0, 2, 2), 0);
        due(13, "as much is not more", x.falls(0), -4);
        x.cost(2, 2, 28);
        due(14, "less", x.barred(0, 2, 2), 1);
        due(13, "all barred", x.falls(0), -4);
        FurrowFair worthless = fair("s100 0 0;m0 0;m0 1;");
        due(14, "the most is 0 less 1", worthless.barred(0, 1, 0), 1);
        worthless.cost(1, 0, 0);
        due(14, "the most is 0", worthless.barred(0, 1, 0), 0);
        // The first such sort, though its own work is worth less.
        x.cost(2, 2, 20);
        x.cost(2, 0, 26);
        due(13, "the least worth of those not barred is thought", x.falls(0), -4);
        x.cost(2, 0, 60);
        x.cost(2, 1, 26);
        due(13, "the second sort draws none", x.falls(0), -4);
    }

    static void lotsAndApart() {
        FurrowFair x = fair(PAIR);
        due(15, "a quarter, above", x.lots(0, 1, 1, 0), 1);
        due(15, "a quarter, below", x.lots(0, 1, 1, 1), 4);
        due(15, "the mark that it makes", x.lots(0, 1, 0, 0), NOF);
        due(15, "alone: 0", x.lots(20, 0, 1, 0), NOF);
        due(15, "away", x.lots(24, 0, 1, 0), NOF);
        due(15, "another makes it", x.lots(5, 0, 1, 0), NOF);
        due(15, "no part", x.lots(0, 1, 1, 2), NOF);
        due(15, "no fit", x.lots(2, 1, 1, 0), NOF);
        due(15, "no sort", x.lots(0, 2, 1, 0), NOF);
        due(15, "no mark", x.lots(0, 1, 2, 0), NOF);
        due(34, "one way", x.standing(), 1);
        // T = 200 - 50 = 150: 50 (100 - 150) by 50 (150 - 200) is 1: not below it.
        x.cost(1, 1, 50);
        due(15, "1 is not below 1", x.lots(0, 1, 1, 0), NOF);
        due(34, "no way", x.standing(), 0);
        // T = 200 less 100: the others at a are worth no less: 0 is not above 0.
        x.cost(1, 1, 100);
        due(15, "0 is not above 0", x.lots(0, 1, 1, 0), NOF);
        x.cost(1, 1, 0);
        due(15, "nothing to divide by", x.lots(0, 1, 1, 0), NOF);
        // Uses and costs on both sides: T = 200 + 9 - 80 + 5 - 4 = 130: 50 (-30) by 50 (-70).
        x.cost(1, 1, 80);
        x.cost(1, -1, 9);
        x.cost(0, 1, 5);
        x.cost(0, -1, 4);
        due(15, "3 by 7", x.lots(0, 1, 1, 0), 3);
        due(15, "3 by 7", x.lots(0, 1, 1, 1), 7);

        x = fair(PAIR);
        due(16, "apart", x.apart(), 5);
        x.cost(1, 0, 99);
        due(16, "none is sure", x.apart(), -4);
        // One sort, two marks alike but for their cost: the cheaper; then the lower number.
        x = fair("s100 50 0;m3 7;m0 4;");
        due(16, "the least waste", x.apart(), 1);
        due(11, "the other is sure too", x.next(-1), 0);
        x.cost(1, 0, 7);
        x.cost(1, -1, 3);
        due(16, "the least number", x.apart(), 0);
        x.change(0, 1, 999);
        due(16, "who stays away isn't told apart", x.apart(), -4);
    }

    static void justNotAndGain() {
        FurrowFair x = fair(PAIR);
        // Sort 0 would lose 50 by mark 1, sort 1 would lose 20 by mark 0.
        due(17, "least", x.justNot(5), 10);
        x.change(1, 1, 110);
        due(17, "away", x.justNot(5), 14);
        x.change(1, 1, 100);
        due(17, "the first mark of several", x.justNot(5), 10);
        x.change(0, 1, 80);
        due(17, "the first sort of several", x.justNot(5), 4);
        due(17, "not sure", x.justNot(1), -3);
        due(17, "no fit", x.justNot(2), -1);
        x = fair("s100 9 50;m0 0;");
        due(17, "not away if it stays away", x.justNot(4), 0);

        x = fair(PAIR);
        due(18, "waste", x.waste(5), 4000);
        due(18, "waste", x.waste(6), 11500);
        due(18, "none by who stays away", x.waste(24), 0);
        due(18, "no fit", x.waste(25), -1);
        due(19, "beside nothing seen", x.gain(5, 0, 0, 0), -50);
        due(19, "beside all seen", x.gain(5, 0, 1, 0), 0);
        due(19, "nought's line", x.gain(5, 0, 1, 1), 1);
        due(19, "beside all seen", x.gain(5, 1, 1, 0), -80);
        x.change(1, 0, 201);
        // Mean 150.5; sort 1 gets 121.
        due(19, "least terms", x.gain(5, 1, 0, 0), -59);
        due(19, "least terms", x.gain(5, 1, 0, 1), 2);
        x.change(1, 1, 180);
        due(19, "away if that is more", x.gain(5, 1, 0, 0), -59);
        due(19, "away if that is more", x.gain(5, 1, 0, 1), 1);
        x.change(1, 1, 300);
        due(19, "away if that is more", x.gain(5, 1, 1, 0), -179);
        due(19, "no what", x.gain(5, 1, 2, 0), NOF);
        due(19, "no part", x.gain(5, 1, 0, 2), NOF);
        due(19, "no sort", x.gain(5, 2, 0, 0), NOF);
        due(19, "no fit", x.gain(7, 0, 0, 0), NOF);
        x = fair(PAIR);
        due(33, "losers beside nothing", x.losers(5, 0), 3);
        due(33, "losers beside all", x.losers(5, 1), 2);
        due(33, "none loses by nothing", x.losers(0, 0), 0);
        due(33, "the better loses by all in one", x.losers(0, 1), 2);
        due(33, "no what", x.losers(0, 2), -1);
        due(33, "no fit", x.losers(2, 0), -1);
    }

    static void marks() {
        FurrowFair x = fair("s50 10 0;s50 40 0;m60 600 0;m50 500 10;t0 1;");
        due(20, "alike", x.inOne(1, 1), -1);
        due(20, "no mark", x.inOne(0, 2), -1);
        due(20, "no mark", x.inOne(-1, 0), -1);
        due(20, "in one", x.inOne(0, 1), 2);
        due(20, "use held", x.mark(2, -1), 99);
        due(20, "cost held", x.mark(2, 0), 999);
        due(20, "cost added", x.mark(2, 1), 10);
        due(20, "open", x.mark(2, -2), -4);
        due(20, "in one", x.inOne(2, 1), 3);
        due(20, "no room", x.inOne(0, 1), -2);
        due(20, "no such goes ahead of no room", x.inOne(0, 4), -1);
        due(20, "marks", x.count(1), 4);

        x = fair(PAIR);
        due(21, "none barred", x.bars(0), 2);
        due(21, "mark 1 barred", x.bars(2), 1);
        // All in mark 1: sort 0 gets 0 there, as much as away.
        due(21, "mark 0 barred", x.bars(1), 1);
        due(21, "all barred", x.bars(3), -1);
        due(21, "too high", x.bars(4), -1);
        due(21, "below 0", x.bars(-1), -1);
        due(21, "bars do not stay", x.all(0), 2);
        due(22, "nothing is lost without bars", x.leastBar(0), 0);
        due(22, "nothing is lost without bars", x.leastBar(1), 0);
        due(22, "no what", x.leastBar(2), -1);
        due(22, "no what", x.leastBar(-1), -1);
        // Mark 0 costs 10 and is better for both; mark 1 is free: barring mark 0 spares the waste.
        x = fair("s100 50 0;m99 10;m0 0;");
        due(22, "one is better barred", x.leastBar(0), 1);
        due(22, "least waste", x.leastBar(1), 0);
        due(22, "bars do not stay", x.next(-1), 0);
        // No fit is sure while the marks stand as they do, but with one barred.
        x = fair("s100 50 0;m0 10;");
        due(22, "one mark alone", x.leastBar(0), 0);
        due(22, "one mark alone", x.leastBar(1), 1000);
        due(21, "one mark is all", x.bars(1), -1);
    }

    static void asking() {
        FurrowFair x = fair("s50 10 0;s50 40 0;m0 0 0;m5 20 10;");
        line(x, 1, 10, 45);
        due(23, "makes the best", x.makes(1, 0), 1);
        due(23, "makes the best", x.makes(1, 1), 1);
        due(24, "loses", x.loses(1), 1);
        line(x, 1, 10, 30);
        due(23, "the least of several", x.makes(1, 0), 0);
        due(23, "the other", x.makes(1, 1), 1);
        due(24, "stands", x.loses(1), -4);
        // Sort 1 gets 20; who offers 21 in mark 0 gets it alone: 40 - 21; sort 0 (10 - 21) comes along.
        due(25, "by 21 in mark 0", x.broken(1), 21);
        x.change(0, 1, 11);
        due(23, "away if it gets more so", x.makes(1, 0), 4);
        x.change(0, 1, 10);
        due(23, "as much is not more", x.makes(1, 0), 0);
        line(x, 1, 10, 50);
        x.cost(1, 0, 999);
        due(24, "loses on one", x.loses(1), 1);
        line(x, 1, 10, 45);
        due(24, "0 is no loss", x.loses(1), -4);
        line(x, 2, 25, 0);
        due(24, "a mean of 25", x.loses(2), -4);
        // From 35 - 10 = 25 on mark 1 draws sort 1: more than 35 does, and 45 - 36 is above 0.
        due(25, "by 36 in mark 1", x.broken(2), 10036);
        x.cost(1, 1, 20);
        due(25, "45 - 46 is not above 0", x.broken(2), -4);
        line(x, 3, 26, 0);
        due(24, "a mean of 25 against 26", x.loses(3), 0);
        FurrowFair few = fair("s1 40 0;s99 10 0;m0 0 0;m0 0 999;");
        line(few, 3, 11, 38);
        due(24, "99 too much", few.loses(3), 0);
        line(few, 3, 0, 41);
        due(24, "1 too much", few.loses(3), 1);
        line(few, 3, 0, 38);
        few.cost(0, 1, 999);
        due(25, "1 is earned", few.broken(3), 39);
        line(x, 3, 1999, 0);
        due(24, "1999", x.loses(3), 0);
        line(x, 3, 2000, 0);
        int[] want = {-1, -1, -11, -12, -12, -13, -13, -13};
        x.row(4, 0, 2);
        x.keep(5, 1, 0, 0);
        line(x, 6, 1, -1);
        line(x, 7, 1, 1, 1);
        int[] shelves = {-1, 8, 0, 4, 5, 3, 6, 7};
        for (int i = 0; i < shelves.length; i++) {
            due(23, "wrong line " + i, x.makes(shelves[i], 0), want[i]);
            due(24, "wrong line " + i, x.loses(shelves[i]), want[i]);
            due(25, "wrong line " + i, x.broken(shelves[i]), want[i]);
        }
        due(23, "no sort", x.makes(0, 2), -1);
        due(23, "no sort", x.makes(0, -1), -1);
        x = fair("s100 50 0;m9 0;");
        line(x, 1, 58);
        due(25, "no more is left", x.broken(1), -4);
        line(x, 1, 57);
        due(25, "one is left", x.broken(1), 58);
        line(x, 1, 0);
        x.change(0, 1, 60);
        due(25, "who stays away costs more than it is worth", x.broken(1), -4);
        x.cost(0, 0, 0);
        x.change(0, 1, 0);
        due(25, "the first pay", x.broken(1), 1);
    }

    static void edgesAndRuns() {
        FurrowFair x = fair(PAIR);
        due(26, "sort 0 must lose by mark 1", x.edge(5, 1, 0), 100);
        due(26, "who makes it may pay nothing", x.edge(5, 1, 1), 0);
        due(26, "all else as now", x.edge(0, 1, 0), 0);
        due(26, "cost stays", x.mark(1, 0), 150);
        due(26, "none", x.edge(24, 0, 0), -4);
        x.cost(1, 1, 101);
        due(26, "the other would go", x.edge(5, 1, 0), -4);
        due(26, "at the edge", x.edge(5, 1, 1), 0);
        due(26, "no fit", x.edge(2, 0, 0), -1);
        due(26, "no mark", x.edge(0, 2, 0), -1);
        due(26, "no sort", x.edge(0, 0, 2), -1);
        x = fair("s100 999 0;m0 0;m99 0;t1 0;");
        due(26, "the least is 99", x.edge(0, 1, 0), 99);
        x.cost(0, 0, 901);
        due(26, "beyond 999", x.edge(0, 1, 0), -4);
        x.cost(0, 0, 900);
        due(26, "just 999", x.edge(0, 1, 0), 999);

        x = fair(PAIR);
        due(27, "mark 1", x.run(5, 50, 7, 1), 28);
        due(27, "mark 0", x.run(5, 50, 7, 0), 22);
        due(27, "all", x.run(0, 99, 7, 0), 99);
        due(27, "away", x.run(24, 99, LOW, 4), 99);
        due(27, "nobody", x.run(5, 50, 7, 4), 0);
        // 7 becomes 1103515245 * 7 + 12345 = -865315532 (an int): without the sign 1282168116, over 65536 19564: 64.
        due(27, "one from 7 is sort 1", x.run(5, 1, 7, 1), 1);
        due(27, "no folk", x.run(5, 0, 7, 1), -1);
        due(27, "too many", x.run(5, 100, 7, 1), -1);
        due(27, "no mark", x.run(5, 50, 7, 5), -1);
        due(27, "no mark", x.run(5, 50, 7, -1), -1);
        due(27, "no fit", x.run(2, 50, 7, 0), -1);

        due(28, "rate", x.rate(100), 0);
        due(28, "rate", x.rate(40), 100);
        due(28, "too high", x.rate(101), -1);
        due(28, "below 0", x.rate(-1), -1);
        due(28, "refused", x.rate(40), 40);
        // Known: 0, 40, 80, 100: 220 of 400. Fit 0: 180 * 150 + 220 * 100 = 490 hundreds.
        due(29, "four years", x.years(0, 0, 4, 0), 490);
        due(29, "four years", x.years(0, 1, 4, 0), (180 * 150 + 220 * 200) / 100);
        due(29, "one year", x.years(0, 0, 1, 0), 150);
        due(29, "costs once", x.years(5, 1, 4, 0), 720);
        x.cost(0, -1, 9);
        due(29, "and the use", x.years(0, 0, 4, 0), 490 + 36);
        x.change(0, 0, 101);
        // 180 * 150.5 + 220 * 101 = 27090 + 22220 hundredths, and the use.
        due(29, "least terms", x.years(0, 0, 4, 0), 5291);
        due(29, "least terms", x.years(0, 0, 4, 1), 10);
        x.change(0, 1, 7);
        due(29, "away", x.years(4, 0, 12, 0), 84);
        due(29, "no years", x.years(0, 0, 0, 0), NOF);
        due(29, "too many", x.years(0, 0, 13, 0), NOF);
        due(29, "no fit", x.years(2, 0, 1, 0), NOF);
        due(29, "no sort", x.years(0, 2, 1, 0), NOF);
        due(29, "no part", x.years(0, 0, 1, 2), NOF);

        x = fair(PAIR);
        x.rate(40);
        due(30, "over one year", x.ratherOver(5, 1), -4);
        due(30, "over three years", x.ratherOver(5, 3), 1);
        due(30, "the least mark", x.ratherOver(24, 12), 0);
        due(30, "at once it is sure again", x.rather(5), -4);
        due(30, "no years", x.ratherOver(5, 0), -1);
        due(30, "too many", x.ratherOver(5, 13), -1);
        due(30, "no fit", x.ratherOver(2, 1), -1);
        x.change(0, 1, 101);
        due(30, "away", x.ratherOver(20, 2), 4);
    }

    static void taxesAndMoves() {
        // Mark 0 pays 5 more and costs 3 (sort 0): a tax of 10 drives it to the free one, mark 1.
        FurrowFair x = fair("s100 50 0;m5 3;m0 0;");
        due(31, "the least that helps", x.bestTax(0, 0), 10);
        due(31, "no waste", x.bestTax(0, 1), 0);
        due(31, "the other mark: none helps", x.bestTax(1, 0), 0);
        due(31, "the other mark: none helps", x.bestTax(1, 1), 300);
        due(31, "taxes do not stay", x.rather(1), 0);
        due(31, "the cost neither", x.mark(0, 0), 3);
        x.cost(0, -1, 33);
        due(31, "as much drives nobody away", x.bestTax(0, 0), 30);
        x.cost(0, -1, 34);
        due(31, "40", x.bestTax(0, 0), 40);
        x.cost(0, -1, 94);
        due(31, "90 is the most", x.bestTax(0, 0), 0);
        x.cost(0, -1, 93);
        due(31, "90", x.bestTax(0, 0), 90);
        due(31, "no mark", x.bestTax(2, 0), -1);
        due(31, "no what", x.bestTax(0, 2), -1);

        x = fair(PAIR);
        due(32, "never", x.moved(5, 0, 1), -4);
        x.cost(1, 1, 40);
        // All in mark 0 get 150; mark 1 told good gives sort 1 160: until the mean is 160, ten hundredths on.
        x.think(1, 1);
        due(32, "ten", x.moved(0, 0, 1), 10);
        due(32, "chance stays", x.sort(0, 0), 50);
        due(32, "chance stays", x.sort(1, 0), 50);
        due(32, "the other way never", x.moved(0, 1, 0), -4);
        x.cost(1, 1, 51);
        due(32, "149: one more fails it", x.moved(0, 1, 0), 2);
        x.cost(1, 1, 2);
        due(32, "48 of 50", x.moved(0, 0, 1), 48);
        x.cost(1, 1, 1);
        due(32, "49 of 50", x.moved(0, 0, 1), 49);
        x.cost(1, 1, 0);
        due(32, "one must be left", x.moved(0, 0, 1), -4);
        due(32, "one sort twice", x.moved(0, 1, 1), -1);
        due(32, "no sort", x.moved(0, 0, 2), -1);
        due(32, "no sort", x.moved(0, -1, 0), -1);
        due(32, "no fit", x.moved(2, 0, 1), -1);
    }

    static void imaging() {
        FurrowFair x = fair(PAIR);
        x.rate(12);
        x.think(1, 1);
        due(36, "none yet", x.restore(), -3);
        due(35, "image", x.image(), 2);
        x.rate(50);
        x.think(1, 0);
        x.change(0, 0, 1);
        x.change(1, 1, 1);
        x.cost(0, -1, 9);
        x.cost(1, 1, 9);
        x.inOne(0, 1);
        due(36, "restore", x.restore(), 2);
        due(36, "marks", x.count(1), 2);
        due(36, "worth", x.count(3), 300);
        due(36, "costs", x.count(4), 230);
        due(36, "use", x.mark(0, -1), 0);
        due(36, "away", x.sort(1, 2), 0);
        due(36, "told", x.mark(1, -2), 1);
        due(36, "rate", x.rate(3), 12);
        read(x, "s100 5 9;m0 0;");
        due(35, "the image is another", x.restore(), 2);
        due(36, "chance", x.sort(1, 0), 50);
        due(36, "again", x.restore(), 2);
        read(x, "s100 5 9;m0 0;");
        due(35, "another image", x.image(), 1);
        due(36, "restored", x.restore(), 1);
        due(36, "the sort", x.sort(0, 1), 5);
        due(36, "one alone", x.sort(1, 1), -1);
    }

    static void rows() {
        FurrowFair x = new FurrowFair();
        due(38, "nothing", x.keep(0, 0, 9, 9), 0);
        due(38, "no shelf", x.keep(8, 0, 0, 0), -1);
        due(38, "no shelf goes ahead", x.keep(-1, 1, 0, 0), -1);
        due(38, "no what goes ahead", x.keep(0, 2, 0, 0), -1);
        due(38, "no market", x.keep(0, 1, 9, 9), -3);
        due(39, "no shelf", x.row(8, 0, 1), -1);
        due(39, "no sort", x.row(0, 3, 1), -1);
        due(39, "no sort", x.row(0, -1, 1), -1);
        due(39, "too long", x.row(0, 0, 121), -1);
        due(39, "below 0", x.row(0, 0, -1), -14);
        due(39, "no sort goes ahead", x.row(0, 3, -1), -1);
        due(39, "nothing held by then", x.put(0, 0, 0), -11);
        due(39, "bytes", x.row(0, 0, 120), 0);
        due(40, "the last", x.put(0, 119, 300), 0);
        due(41, "lowest bits", x.element(0, 119), 44);
        due(40, "the first", x.put(0, 0, 200), 0);
        due(41, "lowest bits", x.element(0, 0), -56);
        due(40, "behind", x.put(0, 120, 1), -13);
        due(40, "before", x.put(0, -1, 1), -13);
        due(40, "bare", x.put(1, 0, 1), -11);
        due(40, "no shelf", x.put(8, 0, 1), -1);
        due(39, "shorts", x.row(1, 1, 2), 0);
        x.put(1, 1, 65535);
        due(41, "lowest bits", x.element(1, 1), -1);
        x.put(1, 1, 40000);
        due(41, "lowest bits", x.element(1, 1), -25536);
        due(39, "ints", x.row(2, 2, 1), 0);
        x.put(2, 0, LOW);
        due(41, "all bits", x.element(2, 0), LOW);
        due(41, "no shelf", thrownBy(x, 8, 0), 1);
        due(41, "no shelf", thrownBy(x, -1, 0), 1);
        due(41, "no row", thrownBy(x, 3, 0), 2);
        due(41, "no place", thrownBy(x, 2, 1), 2);
        due(41, "no place", thrownBy(x, 2, -1), 2);
        due(39, "a new row is 0", x.row(2, 2, 1), 0);
        due(41, "a new row is 0", x.element(2, 0), 0);
        due(39, "empty", x.row(3, 2, 0), 0);
        due(41, "empty", thrownBy(x, 3, 0), 2);
        due(43, "a row", x.breadth(3), -12);
        due(44, "a row", x.toss(3), -12);
    }

    static void copying() {
        FurrowFair x = fair(PAIR);
        x.row(0, 1, 5);
        x.row(1, 1, 3);
        x.row(2, 2, 3);
        x.keep(3, 1, 0, 0);
        for (int i = 0; i < 5; i++) {
            x.put(0, i, i + 1);
        }
        due(42, "two", x.copy(0, 3, 1, 1, 2), 2);
        due(42, "two", x.element(1, 2), 5);
        due(42, "not the first", x.element(1, 0), 0);
        due(42, "over itself", x.copy(0, 0, 0, 1, 4), 4);
        due(42, "over itself", x.element(0, 4), 4);
        due(42, "over itself", x.element(0, 1), 1);
        due(42, "none", x.copy(0, 5, 1, 3, 0), 0);
        due(42, "none, but no place", x.copy(0, 6, 1, 3, 0), -13);
        due(42, "too many", x.copy(0, 0, 1, 0, 4), -13);
        due(42, "too many", x.copy(0, 3, 1, 0, 3), -13);
        due(42, "below 0", x.copy(0, 0, 1, 0, -1), -13);
        due(42, "before", x.copy(0, -1, 1, 0, 1), -13);
        due(42, "far", x.copy(0, HIGH, 1, HIGH, HIGH), -13);
        due(42, "no one sort", x.copy(0, 0, 2, 0, 1), -12);
        due(42, "a fit", x.copy(0, 0, 3, 0, 1), -12);
        due(42, "two fits", x.copy(3, 0, 3, 0, 1), -12);
        due(42, "bare", x.copy(0, 0, 4, 0, 1), -11);
        due(42, "bare goes ahead of a fit", x.copy(3, 0, 4, 0, 1), -11);
        due(42, "bare", x.copy(4, 0, 0, 0, 1), -11);
        due(42, "no shelf", x.copy(0, 0, 8, 0, 1), -1);
        due(42, "no shelf", x.copy(-1, 0, 0, 0, 1), -1);
        due(40, "a fit", x.put(3, 0, 1), -12);
        due(41, "a fit", thrownBy(x, 3, 0), 2);
        x.row(5, 0, 120);
        x.keep(5, 1, 0, 0);
        due(38, "a fit in place of a row", x.put(5, 0, 1), -12);
        due(38, "a fit in place of a row", x.market(5), -12);
        due(38, "a fit in place of a row", thrownBy(x, 5, 0), 2);
        x.keep(0, 0, 0, 0);
        due(38, "nothing is held", x.put(0, 0, 1), -11);
    }

    static void keeping() {
        FurrowFair x = fair("s30 10 0;s20 25 7;s50 41 3;m2 1 1 1;m5 9 8 7;");
        // Fit 21: sort 0 makes 1, sort 1 is away, sort 2 makes 0.
        int[] broad = {2, 4, 7, 3, 5, 14};
        int[] tossed = {21, 21, 21, -15, 1021, 2};
        int[] broadAway = {0, 0, 5, 3, 1, 10};
        for (int k = 0; k < 6; k++) {
            due(38, "keep", x.keep(k, 1, k, 21), 0);
            due(43, "breadth of kind " + k, x.breadth(k), broad[k]);
            due(44, "toss of kind " + k, x.toss(k), tossed[k]);
            x.keep(k, 1, k, 124);
            due(43, "breadth of all away, kind " + k, x.breadth(k), broadAway[k]);
            due(44, "toss of all away, kind " + k, x.toss(k), -15);
        }
        due(38, "no kind", x.keep(0, 1, 6, 21), -1);
        due(38, "no kind", x.keep(0, 1, -1, 21), -1);
        due(38, "no fit", x.keep(0, 1, 0, 2), -1);
        due(38, "no fit", x.keep(0, 1, 0, 125), -1);
        due(38, "no fit", x.keep(0, 1, 0, -1), -1);
        due(43, "refused changes nothing", x.breadth(5), 10);
        due(43, "no shelf", x.breadth(8), -1);
        due(43, "no shelf", x.breadth(-1), -1);
        due(44, "no shelf", x.toss(8), -1);
        due(44, "bare", x.toss(6), -11);
        // By as many sorts as there were: fit 4 of one sort is all away, of three it is not.
        x.keep(0, 1, 2, 4);
        x.keep(1, 1, 3, 4);
        read(x, "s100 5 9;m0 0;");
        due(43, "three sorts then", x.breadth(0), 6);
        due(43, "three sorts then", x.breadth(1), 2);
        due(44, "three sorts then", x.toss(0), 4);
        x.keep(2, 1, 2, 4);
        due(43, "one sort now", x.breadth(2), 5);
        due(44, "one sort now", x.toss(2), -15);
        x.row(2, 0, 1);
        due(43, "a row in its place", x.breadth(2), -12);
    }

    public static void main(String[] args) {
        newObject();
        reading();
        tellingAndChanging();
        payAndGets();
        rathers();
        secondThought();
        lotsAndApart();
        justNotAndGain();
        marks();
        asking();
        edgesAndRuns();
        taxesAndMoves();
        imaging();
        rows();
        copying();
        keeping();
        System.out.println(wrong == 0 ? "all promises hold" : wrong + " answers are not as due");
        if (wrong != 0) {
            System.exit(1);
        }
    }
}
