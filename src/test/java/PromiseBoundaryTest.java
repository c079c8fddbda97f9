/** Each sentence of the promises that names a boundary case, with a look of its own. */
public final class PromiseBoundaryTest extends Sentences {
    /** No fit, whatever the market: below 0, above all, the ends of int. */
    static final int[] NO_FITS = {-1, LOW, 625, HIGH};
    static final int[] NO_SHELVES = {-1, 8, LOW, HIGH};
    /** Neither 0 nor 1. */
    static final int[] NO_BITS = {-1, 2, LOW, HIGH};
    /** No number of a sort, nor of a mark, in a market of two. */
    static final int[] NEITHER = {-1, 2, 4, LOW, HIGH};

    interface Call {
        long of(int n);
    }

    /** The call answers the same to each of these. */
    static void all(String call, int[] numbers, long want, Call made) {
        for (int n : numbers) {
            due(call.replace("?", Integer.toString(n)), made.of(n), want);
        }
    }

    static FurrowFair none() {
        return new FurrowFair();
    }

    // ---- markets

    static void newObject() {
        said("Promise 1", "No MARKET.", () -> {
            FurrowFair x = none();
            for (int what = 0; what < 5; what++) {
                due("count(" + what + ")", x.count(what), 0);
            }
            due("sort", x.sort(0, 0), -3);
            due("image", x.image(), -3);
            due("restore", x.restore(), -3);
            due("standing", x.standing(), -3);
            FurrowFair other = fair(PAIR);
            due("of one object", other.count(0), 2);
            due("not of the other", x.count(0), 0);
        });
        said("Promise 2", "how many STATEMENTS; the FAULT.", () -> {
            due("two", read("s100 5 9;m0 0;"), 2);
            due("eight", read(FULL), 8);
            due("twenty-one", read("s100 0 0;m0 0;m0 0;m0 0;m0 0;" + "t0 0;".repeat(17)), 22);
            due("none", read(""), -1000);
            due("too early", read("s100 5 9;m0 0"), -1013);
            due("not as told", read("s100 5 9;m0 0 0;"), -2009);
            due("no mark", read("s100 5 9;"), -3000);
        });
        said("Promise 2", "-1, -11, -12 (no ROW of bytes).", () -> {
            FurrowFair x = none();
            all("market(?)", NO_SHELVES, -1, x::market);
            due("bare", x.market(7), -11);
            x.row(7, 1, 14);
            due("shorts", x.market(7), -12);
            x.row(7, 2, 14);
            due("ints", x.market(7), -12);
            read(x, PAIR);
            x.keep(7, 1, 0, 0);
            due("a fit", x.market(7), -12);
            x.row(7, 1, ONE.length());
            for (int i = 0; i < ONE.length(); i++) {
                x.put(7, i, ONE.charAt(i));
            }
            due("a text in shorts", x.market(7), -12);
        });
    }

    static void told() {
        said("Promise 3", "Of a SORT: 0 CHANCE, 1 WORTH, 2 AWAY. -1; -3.", () -> {
            due("without a market", none().sort(0, 0), -3);
            FurrowFair x = fair("s40 10 1;s60 20 2;m3 4 5;");
            all("sort(?, 0)", NEITHER, -1, n -> x.sort(n, 0));
            all("sort(0, ?)", new int[] {-1, 3, LOW, HIGH}, -1, n -> x.sort(0, n));
            due("the first", x.sort(0, 0), 40);
            due("the last", x.sort(1, 2), 2);
            due("worth", x.sort(1, 1), 20);
            due("the last of four", fair(FULL).sort(3, 2), 4);
        });
        said("Promise 4", "(sort -2; -4: open). -1; -3.", () -> {
            due("without a market", none().mark(0, 0), -3);
            FurrowFair x = fair("s40 10 1;s60 20 2;m3 4 5;m6 7 8;t1 0;");
            all("mark(?, 0)", NEITHER, -1, n -> x.mark(n, 0));
            all("mark(?, -2)", NEITHER, -1, n -> x.mark(n, -2));
            all("mark(0, ?)", new int[] {-3, 2, LOW, HIGH}, -1, n -> x.mark(0, n));
            due("open", x.mark(0, -2), -4);
            due("told sort 0", x.mark(1, -2), 0);
            due("use", x.mark(1, -1), 6);
            due("the last cost", x.mark(1, 1), 8);
            due("the last of four", fair(FULL).mark(3, 3), 27);
        });
        said("Promise 5", "WORTH (what 0), AWAY (1) of a SORT becomes n: what it was. -1; -3.", () -> {
            due("without a market", none().change(0, 0, 5), -3);
            FurrowFair x = fair(PAIR);
            all("change(?, 0, 5)", NEITHER, -1, n -> x.change(n, 0, 5));
            all("change(0, ?, 5)", NO_BITS, -1, n -> x.change(0, n, 5));
            all("change(0, 0, ?)", new int[] {-1, 1000, LOW, HIGH}, -1, n -> x.change(0, 0, n));
            all("change(0, 1, ?)", new int[] {-1, 1000, LOW, HIGH}, -1, n -> x.change(0, 1, n));
            due("to 999", x.change(1, 0, 999), 200);
            due("to 0", x.change(1, 0, 0), 999);
            due("away to 999", x.change(1, 1, 999), 0);
            due("away to 0", x.change(1, 1, 0), 999);
            due("worth is 0", x.sort(1, 1), 0);
            due("the other's stays", x.sort(0, 1), 100);
        });
        said("Promise 6", "COST of a MARK for a SORT (-1: its USE) becomes n: what it was. -1; -3.", () -> {
            due("without a market", none().cost(0, 0, 5), -3);
            FurrowFair x = fair(PAIR);
            all("cost(?, 0, 5)", NEITHER, -1, n -> x.cost(n, 0, 5));
            all("cost(?, -1, 5)", NEITHER, -1, n -> x.cost(n, -1, 5));
            all("cost(0, ?, 5)", new int[] {-2, 2, LOW, HIGH}, -1, n -> x.cost(0, n, 5));
            all("cost(0, 0, ?)", new int[] {-1, 1000, LOW, HIGH}, -1, n -> x.cost(0, 0, n));
            all("cost(0, -1, ?)", new int[] {-1, 100, LOW, HIGH}, -1, n -> x.cost(0, -1, n));
            due("to 999", x.cost(1, 1, 999), 80);
            due("to 0", x.cost(1, 1, 0), 999);
            due("use to 99", x.cost(1, -1, 99), 0);
            due("use to 0", x.cost(1, -1, 0), 99);
            due("the other's stays", x.mark(1, 0), 150);
        });
        said("Promise 7", "becomes a SORT (-1: open): what it was (-4: open). -1; -3.", () -> {
            due("without a market", none().think(0, 0), -3);
            FurrowFair x = fair(PAIR);
            all("think(?, 0)", NEITHER, -1, n -> x.think(n, 0));
            all("think(0, ?)", new int[] {-2, 2, LOW, HIGH}, -1, n -> x.think(0, n));
            due("was open", x.think(1, 1), -4);
            due("was 1", x.think(1, 0), 1);
            due("was 0", x.think(1, -1), 0);
            due("was open", x.think(1, -1), -4);
            due("the other stays open", x.mark(0, -2), -4);
            due("the last of four", fair(FULL).think(3, 3), -4);
        });
    }

    // ---- fits

    static void fits() {
        said("Promise 8", "above (part 0), below the line (1), in least terms.", () -> {
            FurrowFair x = fair(PAIR);
            x.change(0, 0, 0);
            due("nought", x.pay(5, 0, 0), 0);
            due("nought's line", x.pay(5, 0, 1), 1);
            x.change(0, 0, 101);
            due("301 by 2", x.pay(0, 0, 0), 301);
            due("301 by 2", x.pay(0, 0, 1), 2);
            due("away pays nobody", x.pay(0, 4, 0), NOF);
            all("pay(?, 0, 0)", NO_FITS, NOF, n -> x.pay(n, 0, 0));
            all("pay(0, ?, 0)", NEITHER, NOF, n -> x.pay(0, n, 0));
            all("pay(0, 0, ?)", NO_BITS, NOF, n -> x.pay(0, 0, n));
            due("without a market", none().pay(0, 0, 0), NOF);
        });
        said("Promise 9", "What a SORT GETS in a FIT likewise.", () -> {
            FurrowFair x = fair(PAIR);
            x.change(0, 0, 101);
            due("301 by 2", x.gets(0, 1, 0), 301);
            due("301 by 2", x.gets(0, 1, 1), 2);
            due("below 0", x.gets(1, 0, 0), -49);
            due("below 0", x.gets(1, 0, 1), 1);
            due("away", x.gets(24, 0, 0), 0);
            due("away", x.gets(24, 0, 1), 1);
            all("gets(?, 0, 0)", NO_FITS, NOF, n -> x.gets(n, 0, 0));
            all("gets(0, ?, 0)", NEITHER, NOF, n -> x.gets(0, n, 0));
            all("gets(0, 0, ?)", NO_BITS, NOF, n -> x.gets(0, 0, n));
            due("without a market", none().gets(0, 0, 0), NOF);
        });
        said("Promise 10", "10 times the SORT, and the MARK (4: away); -4: the FIT is SURE. -1; -3.", () -> {
            due("without a market", none().rather(0), -3);
            FurrowFair x = fair(PAIR);
            all("rather(?)", NO_FITS, -1, x::rather);
            due("above the last", x.rather(25), -1);
            due("a mark that isn't there", x.rather(2), -1);
            due("sure", x.rather(5), -4);
            due("the first", x.rather(24), 0);
            x.change(1, 1, 999);
            due("the last", x.rather(0), 14);
            FurrowFair full = fair(FULL);
            full.change(3, 1, 999);
            due("the last of four", full.rather(430), 34);
            due("the last fit", full.rather(624), 0);
        });
        said("Promise 11", "The first FIT that is SURE with a number above one (-1: of all); -4. -1 (below -1); -3.", () -> {
            due("without a market", none().next(-1), -3);
            FurrowFair x = fair(PAIR);
            due("of all", x.next(-1), 0);
            due("above 0", x.next(0), 5);
            due("above 4", x.next(4), 5);
            all("next(?)", new int[] {5, 23, 24, 25, 625, HIGH - 1, HIGH}, -4, x::next);
            all("next(?)", new int[] {-2, -3, LOW}, -1, x::next);
            x.change(0, 1, 999);
            x.change(1, 1, 999);
            due("the last fit", x.next(23), 24);
            due("none above the last", x.next(24), -4);
            due("none at all", fair(RESTLESS).next(-1), -4);
            due("above 300 in the full market", fair(FULL).next(300), 430);
            FurrowFair full = fair(FULL);
            for (int s = 0; s < 4; s++) {
                full.change(s, 1, 999);
            }
            due("the last of all", full.next(-1), 624);
            due("the last of all", full.next(623), 624);
            due("above the last of all", full.next(624), -4);
        });
        said("Promise 12", "How many FITS are SURE (what 0), would be SURE if all TOLD THOUGHTS were open (1), are SURE and LEFT (2). -1; -3.", () -> {
            due("without a market", none().all(0), -3);
            FurrowFair x = fair(FULL);
            all("all(?)", new int[] {-1, 3, LOW, HIGH}, -1, x::all);
            x.think(3, 3);
            x.cost(3, 3, 9);
            due("told", x.all(0) < 4 ? 1 : 0, 1);
            x.think(3, -1);
            x.cost(3, 3, 27);
            for (int what = 0; what < 3; what++) {
                due("all(" + what + ") of the full market", x.all(what), 4);
            }
            FurrowFair pair = fair(PAIR);
            pair.cost(1, 1, 49);
            pair.think(1, 1);
            due("told", pair.all(0), 1);
            due("open", pair.all(1), 2);
            due("told stays told: rather", pair.rather(0), 11);
            due("told stays told: pay", pair.pay(0, 1, 0), 200);
            due("told stays told", pair.all(0), 1);
            due("told and left", pair.all(2), 1);
            due("left of three", fair(THREE).all(2), 1);
            due("none", fair(RESTLESS).all(0), 0);
            due("open, none told any more", fair(RESTLESS).all(1), 1);
            due("none left", fair(RESTLESS).all(2), 0);
        });
        said("Promise 13", "-4: it is LEFT. -1; -3: none, or it isn't SURE.", () -> {
            due("without a market", none().falls(0), -3);
            FurrowFair x = fair(THREE);
            all("falls(?)", NO_FITS, -1, x::falls);
            due("a mark that isn't there", x.falls(3), -1);
            due("not sure", x.falls(124), -3);
            due("left", x.falls(50), -4);
            due("falls", x.falls(0), 22);
        });
        said("Promise 14", "1, 0. -1; -3: none, the FIT isn't SURE, or the MARK is MADE.", () -> {
            due("without a market", none().barred(0, 0, 0), -3);
            FurrowFair x = fair(PAIR);
            all("barred(?, 1, 0)", NO_FITS, -1, n -> x.barred(n, 1, 0));
            all("barred(0, ?, 0)", NEITHER, -1, n -> x.barred(0, n, 0));
            all("barred(0, 1, ?)", NEITHER, -1, n -> x.barred(0, 1, n));
            due("no mark in a fit that isn't sure", x.barred(1, 2, 0), -1);
            due("no sort at a mark that is made", x.barred(0, 0, 2), -1);
            due("not sure", x.barred(24, 1, 0), -3);
            due("made", x.barred(0, 0, 0), -3);
            due("barred", x.barred(0, 1, 0), 1);
            x.cost(1, 1, 50);
            due("not barred", x.barred(0, 1, 1), 0);
        });
        said("Promise 15", "q, above (part 0), below the line (1).", () -> {
            FurrowFair x = fair(PAIR);
            due("above", x.lots(0, 1, 1, 0), 1);
            due("below", x.lots(0, 1, 1, 1), 4);
            all("lots(?, 1, 1, 0)", NO_FITS, NOF, n -> x.lots(n, 1, 1, 0));
            all("lots(0, ?, 1, 0)", NEITHER, NOF, n -> x.lots(0, n, 1, 0));
            all("lots(0, 1, ?, 0)", NEITHER, NOF, n -> x.lots(0, 1, n, 0));
            all("lots(0, 1, 1, ?)", NO_BITS, NOF, n -> x.lots(0, 1, 1, n));
            due("two wrong at once", x.lots(-1, -1, 1, 0), NOF);
            due("without a market", none().lots(0, 1, 1, 0), NOF);
        });
        said("Promise 16", "CHEAPEST APART; -4. -3.", () -> {
            due("without a market", none().apart(), -3);
            due("none", fair(RESTLESS).apart(), -4);
            due("each its own", fair(PAIR).apart(), 5);
            due("of one alone", fair(ONE).apart(), 0);
        });
        said("Promise 17", "JUST NOT. -1; -3: none, or the FIT isn't SURE.", () -> {
            due("without a market", none().justNot(0), -3);
            FurrowFair x = fair(PAIR);
            all("justNot(?)", NO_FITS, -1, x::justNot);
            due("not sure", x.justNot(24), -3);
            due("sure", x.justNot(5), 10);
            due("a fit that wastes", fair(FULL).justNot(156), 0);
            due("only away", fair("s100 50 9;m0 0;").justNot(0), 4);
        });
        said("Promise 18", "WASTE. -1; -3.", () -> {
            due("without a market", none().waste(0), -3);
            FurrowFair x = fair(PAIR);
            all("waste(?)", NO_FITS, -1, x::waste);
            due("not sure, too", x.waste(6), 11500);
            due("none", x.waste(24), 0);
        });
        said("Promise 19", "GAIN of a SORT: beside what 0, 1; above (part 0), below the line (1).", () -> {
            FurrowFair x = fair(PAIR);
            due("nought", x.gain(0, 0, 0, 0), 0);
            due("nought's line", x.gain(0, 0, 0, 1), 1);
            due("above all seen", x.gain(0, 0, 1, 0), 50);
            due("below 0", x.gain(0, 1, 1, 0), -50);
            all("gain(?, 0, 0, 0)", NO_FITS, NOF, n -> x.gain(n, 0, 0, 0));
            all("gain(0, ?, 0, 0)", NEITHER, NOF, n -> x.gain(0, n, 0, 0));
            all("gain(0, 0, ?, 0)", NO_BITS, NOF, n -> x.gain(0, 0, n, 0));
            all("gain(0, 0, 0, ?)", NO_BITS, NOF, n -> x.gain(0, 0, 0, n));
            due("without a market", none().gain(0, 0, 0, 0), NOF);
        });
    }

    // ---- marks

    static void marks() {
        said("Promise 20", "IN ONE: the MARK. -1; -2; -3.", () -> {
            due("without a market", none().inOne(0, 1), -3);
            FurrowFair x = fair(PAIR);
            all("inOne(?, 0)", NEITHER, -1, n -> x.inOne(n, 0));
            all("inOne(0, ?)", NEITHER, -1, n -> x.inOne(0, n));
            due("one twice", x.inOne(1, 1), -1);
            due("the third", x.inOne(0, 1), 2);
            due("its cost", x.mark(2, 1), 80);
            due("the fourth", x.inOne(2, 1), 3);
            due("its cost", x.mark(3, 0), 300);
            due("no room", x.inOne(0, 1), -2);
            due("no room", x.inOne(3, 2), -2);
            due("one twice, when full", x.inOne(3, 3), -1);
            due("marks", x.count(1), 4);
            due("all is counted with four", x.all(0) > 0 ? 1 : 0, 1);
            due("one mark alone", fair(ONE).inOne(0, 1), -1);
        });
        said("Promise 21", "How many FITS are SURE with BARS (bits). -1 (all, too); -3.", () -> {
            due("without a market", none().bars(0), -3);
            FurrowFair x = fair(PAIR);
            due("none barred", x.bars(0), 2);
            due("all but one", x.bars(2), 1);
            all("bars(?)", new int[] {3, 4, 8, 15, -1, LOW, HIGH}, -1, x::bars);
            FurrowFair full = fair(FULL);
            due("all but one of four", full.bars(14), 1);
            all("bars(?)", new int[] {15, 16}, -1, full::bars);
            due("nothing stays barred", full.bars(0), 4);
            due("nor for rather", full.rather(430), -4);
            due("nor by all(0)", full.all(0), 4);
        });
        said("Promise 22", "the set (what 0), the least WASTE with it (1); -4. -1; -3.", () -> {
            due("without a market", none().leastBar(0), -3);
            FurrowFair x = fair("s100 50 0;m99 10;m0 9;");
            all("leastBar(?)", NO_BITS, -1, x::leastBar);
            due("the set", x.leastBar(0), 1);
            due("the waste", x.leastBar(1), 900);
            due("nothing stays barred", x.next(-1), 0);
            due("nothing stays barred", x.all(0), 1);
            due("nothing stays barred", x.rather(1), 0);
            FurrowFair pair = fair(PAIR);
            due("the set of two", pair.leastBar(0), 0);
            due("nothing stays barred", pair.all(0), 2);
            due("nothing stays barred", pair.rather(5), -4);
            due("none", fair(RESTLESS).leastBar(0), -4);
            due("none", fair(RESTLESS).leastBar(1), -4);
            due("of the full market", fair(FULL).leastBar(0), 0);
        });
    }

    // ---- asking first

    /** Shelves of a market of two marks by which no line is told, and what is answered. */
    static final int[] WRONG_SHELVES = {-1, 8, 0, 1, 2, 3, 4, 5, 6};
    static final int[] WRONG_ANSWERS = {-1, -1, -11, -12, -12, -13, -13, -13, -13};

    static FurrowFair withWrongLines() {
        FurrowFair x = fair(PAIR);
        x.row(1, 0, 2);
        x.keep(2, 1, 0, 0);
        line(x, 3, 1);
        line(x, 4, 1, 1, 1);
        line(x, 5, 0, 2000);
        line(x, 6, -1, 0);
        return x;
    }

    static void asking() {
        said("Promise 23", "-1, -3, -11, -12, -13: not one for each, or not 0 .. 1999.", () -> {
            FurrowFair x = withWrongLines();
            for (int i = 0; i < WRONG_SHELVES.length; i++) {
                due("makes(" + WRONG_SHELVES[i] + ", 0)", x.makes(WRONG_SHELVES[i], 0), WRONG_ANSWERS[i]);
            }
            due("ints", x.row(1, 2, 2) == 0 ? x.makes(1, 0) : 0, -12);
            line(x, 0, 0, 1999);
            all("makes(0, ?)", NEITHER, -1, n -> x.makes(0, n));
            due("0 and 1999", x.makes(0, 0), 1);
            line(x, 0, 1999, 0);
            due("1999 and 0", x.makes(0, 1), 0);
            x.change(0, 1, 999);
            line(x, 0, 0, 0);
            due("away", x.makes(0, 0), 4);
            due("without a market", none().makes(0, 0), -3);
        });
        said("Promise 24", "-4: it STANDS. -1, -3, -11, -12, -13.", () -> {
            FurrowFair x = withWrongLines();
            for (int i = 0; i < WRONG_SHELVES.length; i++) {
                due("loses(" + WRONG_SHELVES[i] + ")", x.loses(WRONG_SHELVES[i]), WRONG_ANSWERS[i]);
            }
            line(x, 0, 150, 0);
            due("stands", x.loses(0), -4);
            line(x, 0, 151, 0);
            due("loses", x.loses(0), 0);
            line(x, 0, 100, 201);
            due("loses at the last", x.loses(0), 1);
            line(x, 0, 1999, 1999);
            due("the highest pay", x.loses(0), 0);
            due("without a market", none().loses(0), -3);
        });
        said("Promise 25", "10000 times the MARK, and the PAY; -4: by none. -1, -3, -11, -12, -13.", () -> {
            FurrowFair x = withWrongLines();
            for (int i = 0; i < WRONG_SHELVES.length; i++) {
                due("broken(" + WRONG_SHELVES[i] + ")", x.broken(WRONG_SHELVES[i]), WRONG_ANSWERS[i]);
            }
            line(x, 0, 150, 0);
            // Only by mark 1 can sort 1 be had alone: for 231, more than it is worth.
            due("by none", x.broken(0), -4);
            line(x, 0, 100, 0);
            due("by both for 101", x.broken(0), 101);
            line(x, 0, 150, 0);
            x.cost(1, 1, 49);
            due("200 less 200 is not above 0", x.broken(0), -4);
            x.cost(1, 1, 48);
            due("by sort 1 for 199", x.broken(0), 10199);
            line(x, 0, 1999, 1999);
            due("by none beyond all", x.broken(0), -4);
            due("without a market", none().broken(0), -3);
        });
    }

    // ---- edges, runs

    static void edgesAndRuns() {
        said("Promise 26", "EDGE; -4. -1; -3.", () -> {
            due("without a market", none().edge(0, 0, 0), -3);
            FurrowFair x = fair(PAIR);
            all("edge(?, 1, 0)", NO_FITS, -1, n -> x.edge(n, 1, 0));
            all("edge(5, ?, 0)", NEITHER, -1, n -> x.edge(5, n, 0));
            all("edge(5, 1, ?)", NEITHER, -1, n -> x.edge(5, 1, n));
            due("none", x.edge(24, 1, 0), -4);
            due("0", x.edge(5, 1, 1), 0);
            due("100", x.edge(5, 1, 0), 100);
            due("the cost stays", x.mark(1, 0), 150);
            due("the last of four", fair(FULL).edge(430, 3, 3), 0);
            due("step 26 less 12, for sort 2 the edge of mark 3", fair(FULL).edge(430, 3, 2), 28);
        });
        said("Promise 27", "how many made a MARK (0 .. 4). -1; -3.", () -> {
            due("without a market", none().run(0, 1, 0, 0), -3);
            FurrowFair x = fair(PAIR);
            all("run(?, 5, 7, 0)", NO_FITS, -1, n -> x.run(n, 5, 7, 0));
            all("run(5, ?, 7, 0)", new int[] {0, -1, 100, LOW, HIGH}, -1, n -> x.run(5, n, 7, 0));
            all("run(5, 5, 7, ?)", new int[] {-1, 5, LOW, HIGH}, -1, n -> x.run(5, 5, 7, n));
            all("run(0, 99, ?, 0)", new int[] {LOW, -1, 0, 1, HIGH}, 99, n -> x.run(0, 99, n, 0));
            due("away", x.run(24, 1, 0, 4), 1);
            due("marks 2 and 3, which nobody makes", x.run(5, 99, 7, 2) + x.run(5, 99, 7, 3), 0);
            due("fifty", x.run(5, 50, 7, 1), 28);
        });
        said("Promise 28", "RATE: what it was. -1; -3.", () -> {
            due("without a market", none().rate(0), -3);
            FurrowFair x = fair(PAIR);
            all("rate(?)", new int[] {-1, 101, LOW, HIGH}, -1, x::rate);
            due("0 at first", x.rate(100), 0);
            due("100", x.rate(0), 100);
            due("0", x.rate(0), 0);
        });
        said("Promise 29", "What a SORT GETS OVER n YEARS in a FIT: above (part 0), below the line (1).", () -> {
            FurrowFair x = fair(PAIR);
            x.rate(1);
            x.change(0, 0, 101);
            // 150.5 in year 0; in year 1 99 times 150.5 and once 101: 301 less 0.495.
            due("above", x.years(0, 0, 2, 0), 60101);
            due("below", x.years(0, 0, 2, 1), 200);
            due("nought above, away", x.years(24, 0, 12, 0), 0);
            due("nought's line, away", x.years(24, 0, 12, 1), 1);
            due("gets at once as before", x.gets(0, 0, 0), 301);
            due("gets at once as before", x.gets(0, 0, 1), 2);
            due("rather at once as before", x.rather(5), -4);
            all("years(?, 0, 1, 0)", NO_FITS, NOF, n -> x.years(n, 0, 1, 0));
            all("years(0, ?, 1, 0)", NEITHER, NOF, n -> x.years(0, n, 1, 0));
            all("years(0, 0, ?, 0)", new int[] {0, -1, 13, LOW, HIGH}, NOF, n -> x.years(0, 0, n, 0));
            all("years(0, 0, 1, ?)", NO_BITS, NOF, n -> x.years(0, 0, 1, n));
            due("without a market", none().years(0, 0, 1, 0), NOF);
        });
        said("Promise 30", "RATHER OVER n YEARS; -4. -1; -3.", () -> {
            due("without a market", none().ratherOver(0, 1), -3);
            FurrowFair x = fair(PAIR);
            all("ratherOver(?, 1)", NO_FITS, -1, n -> x.ratherOver(n, 1));
            all("ratherOver(5, ?)", new int[] {0, -1, 13, LOW, HIGH}, -1, n -> x.ratherOver(5, n));
            due("1", x.ratherOver(5, 1), -4);
            due("12", x.ratherOver(5, 12), 1);
            due("12, sure", x.ratherOver(0, 12), -4);
            due("at once as before", x.rather(5), -4);
            due("at once as before", x.all(0), 2);
            due("at once as before", x.gets(5, 1, 0), 120);
        });
        said("Promise 31", "THE BEST TAX of a MARK (what 0), the least WASTE with it (1); -4. -1; -3.", () -> {
            due("without a market", none().bestTax(0, 0), -3);
            FurrowFair x = fair("s100 50 0;m5 3;m0 0;");
            all("bestTax(?, 0)", NEITHER, -1, n -> x.bestTax(n, 0));
            all("bestTax(0, ?)", NO_BITS, -1, n -> x.bestTax(0, n));
            due("10", x.bestTax(0, 0), 10);
            due("0", x.bestTax(0, 1), 0);
            due("no tax stays", x.gets(0, 0, 0), 52);
            due("no tax stays", x.rather(0), -4);
            due("no tax stays", x.all(0), 1);
            due("the other's", x.bestTax(1, 1), 300);
            due("none", fair("s50 0 500;s50 999 500;m0 0 0;t0 1;").bestTax(0, 0), -4);
            due("the last of four", fair(FULL).bestTax(3, 0), 0);
            due("mark 4", fair(FULL).bestTax(4, 0), -1);
        });
        said("Promise 32", "MOVED; -4. -1 (one SORT twice, too); -3.", () -> {
            due("without a market", none().moved(0, 0, 1), -3);
            FurrowFair x = fair(PAIR);
            all("moved(?, 0, 1)", NO_FITS, -1, n -> x.moved(n, 0, 1));
            all("moved(0, ?, 1)", NEITHER, -1, n -> x.moved(0, n, 1));
            all("moved(0, 0, ?)", NEITHER, -1, n -> x.moved(0, 0, n));
            due("one sort twice", x.moved(0, 0, 0), -1);
            due("one sort twice", x.moved(0, 1, 1), -1);
            due("none", x.moved(0, 0, 1), -4);
            due("chances stay", x.sort(0, 0), 50);
            due("chances stay", x.sort(1, 0), 50);
            x.cost(1, 1, 40);
            x.think(1, 1);
            due("ten", x.moved(0, 0, 1), 10);
            due("chances stay", x.sort(0, 0), 50);
            due("one sort alone", fair(ONE).moved(0, 0, 1), -1);
        });
        said("Promise 33", "LOSERS. -1; -3.", () -> {
            due("without a market", none().losers(0, 0), -3);
            FurrowFair x = fair(PAIR);
            all("losers(?, 0)", NO_FITS, -1, n -> x.losers(n, 0));
            all("losers(0, ?)", NO_BITS, -1, n -> x.losers(0, n));
            due("none", x.losers(0, 0), 0);
            due("all", x.losers(5, 0), 3);
            due("the first alone", fair("s50 200 0;s50 100 0;m0 0 0;").losers(0, 1), 1);
        });
        said("Promise 34", "STANDING. -3.", () -> {
            due("without a market", none().standing(), -3);
            due("none", fair(ONE).standing(), 0);
            due("one", fair(PAIR).standing(), 1);
        });
    }

    // ---- the image, what is told

    static void images() {
        said("Promise 35", "THE IMAGE is taken: how many SORTS. -3: no MARKET.", () -> {
            FurrowFair x = none();
            due("without a market", x.image(), -3);
            due("none was taken", x.restore(), -3);
            read(x, FULL);
            due("four", x.image(), 4);
            read(x, ONE);
            due("one, in place of four", x.image(), 1);
            read(x, PAIR);
            due("the later one", x.restore(), 1);
        });
        said("Promise 36", "THE IMAGE is RESTORED: how many SORTS. -3: there is none.", () -> {
            due("without a market", none().restore(), -3);
            FurrowFair x = fair(FULL);
            due("with a market", x.restore(), -3);
            due("the market stays", x.count(0), 4);
            x.image();
            due("nothing has changed", x.restore(), 4);
            read(x, ONE);
            due("in place of a smaller one", x.restore(), 4);
            due("the last mark again", x.mark(3, 3), 27);
            x.change(0, 0, 999);
            due("again and again", x.restore(), 4);
            due("the worth again", x.sort(0, 1), 10);
            x.inOne(0, 1);
            read(x, "s100 5 9;");
            due("a fault leaves the image", x.restore(), 4);
            x.image();
            x.cost(0, 0, 5);
            x.image();
            due("of the later one", x.restore() + x.mark(0, 0), 9);
        });
        said("Promise 37", "0 SORTS, 1 MARKS, 2 TOLD THOUGHTS, 3 all WORTH, 4 all COSTS; -1 for others.", () -> {
            FurrowFair x = fair(FULL);
            all("count(?)", new int[] {-1, 5, LOW, HIGH}, -1, x::count);
            int[] want = {4, 4, 0, 100, 236};
            for (int what = 0; what < 5; what++) {
                due("count(" + what + ") of the full market", x.count(what), want[what]);
            }
            x.think(0, 0);
            x.think(2, 0);
            x.think(3, 3);
            due("told ones", x.count(2), 3);
            x.think(2, -1);
            due("told ones", x.count(2), 2);
            due("others without a market", none().count(5), -1);
            due("without a market", none().count(0), 0);
            FurrowFair most = fair("s97 999 0;s1 999 0;s1 999 0;s1 999 0;m0 999 999 999 999;m0 999 999 999 999;");
            due("the most worth", most.count(3), 3996);
            most.inOne(0, 1);
            most.inOne(0, 1);
            due("the most cost", most.count(4), 15984);
        });
    }

    // ---- shelves

    static void shelves() {
        said("Promise 38", "what = 0 nothing (the others do not matter); 1 a FIT of KIND k: 0.", () -> {
            FurrowFair x = none();
            due("nothing, without a market", x.keep(0, 0, 9, -9), 0);
            read(x, PAIR);
            due("the last shelf, the last kind, the last fit", x.keep(7, 1, 5, 24), 0);
            due("it is held", x.breadth(7), 10);
            due("nothing in its place", x.keep(7, 0, LOW, HIGH), 0);
            due("nothing is held", x.breadth(7), -11);
            x.row(7, 0, 120);
            due("nothing in place of a row", x.keep(7, 0, 0, 0), 0);
            due("nothing is held", x.put(7, 0, 0), -11);
            x.row(7, 0, 120);
            due("a fit in place of a row", x.keep(7, 1, 0, 0), 0);
            due("no row is held", x.put(7, 0, 0), -12);
            due("a fit that isn't sure", x.keep(0, 1, 0, 6), 0);
        });
        said("Promise 38", "-1 (SHELF, what); -3: no MARKET (what 1); -1 (KIND, FIT).", () -> {
            FurrowFair x = none();
            all("keep(?, 1, 0, 0) without a market", NO_SHELVES, -1, n -> x.keep(n, 1, 0, 0));
            all("keep(0, ?, 0, 0) without a market", NO_BITS, -1, n -> x.keep(0, n, 0, 0));
            due("no kind, no fit, no market", x.keep(0, 1, 9, -9), -3);
            due("no market", x.keep(0, 1, 0, 0), -3);
            due("nothing without a market", x.keep(0, 0, 0, 0), 0);
            read(x, PAIR);
            all("keep(?, 0, 0, 0)", NO_SHELVES, -1, n -> x.keep(n, 0, 0, 0));
            all("keep(0, ?, 0, 0)", NO_BITS, -1, n -> x.keep(0, n, 0, 0));
            all("keep(0, 1, ?, 0)", new int[] {-1, 6, LOW, HIGH}, -1, n -> x.keep(0, 1, n, 0));
            all("keep(0, 1, 0, ?)", new int[] {-1, 2, 25, LOW, HIGH}, -1, n -> x.keep(0, 1, 0, n));
            due("nothing was kept", x.breadth(0), -11);
        });
        said("Promise 39", "SHELF d gets a ROW of a SORT: 0. -1 (n above 120); -14.", () -> {
            FurrowFair x = none();
            all("row(?, 0, 1)", NO_SHELVES, -1, n -> x.row(n, 0, 1));
            all("row(0, ?, 1)", new int[] {-1, 3, LOW, HIGH}, -1, n -> x.row(0, n, 1));
            all("row(0, 0, ?)", new int[] {121, HIGH}, -1, n -> x.row(0, 0, n));
            all("row(0, 0, ?)", new int[] {-1, LOW}, -14, n -> x.row(0, 0, n));
            due("nothing was held", x.breadth(0), -11);
            all("row(7, 2, ?)", new int[] {0, 1, 119, 120}, 0, n -> x.row(7, 2, n));
            due("the last of 120", x.put(7, 119, HIGH), 0);
            due("the last of 120", element(x, 7, 119), HIGH);
            x.row(7, 2, 5);
            due("a shorter one", x.put(7, 5, 0), -13);
            x.row(7, 2, 120);
            due("a new one is 0", element(x, 7, 119), 0);
            read(x, PAIR);
            x.keep(7, 1, 0, 0);
            due("in place of a fit", x.row(7, 1, 0), 0);
            due("a row is held", x.breadth(7), -12);
        });
        said("Promise 40", "Element i of the ROW becomes v: 0. -1, -11, -12, -13.", () -> {
            FurrowFair x = fair(PAIR);
            x.keep(0, 1, 0, 0);
            x.row(1, 2, 3);
            x.row(2, 2, 0);
            all("put(?, 0, 5)", NO_SHELVES, -1, n -> x.put(n, 0, 5));
            due("bare", x.put(3, 0, 5), -11);
            due("a fit", x.put(0, 0, 5), -12);
            all("put(1, ?, 5)", new int[] {-1, 3, 120, LOW, HIGH}, -13, n -> x.put(1, n, 5));
            due("an empty row", x.put(2, 0, 5), -13);
            due("the first", x.put(1, 0, LOW), 0);
            due("the last", x.put(1, 2, HIGH), 0);
            due("the first", element(x, 1, 0), LOW);
            due("between", element(x, 1, 1), 0);
            due("the last", element(x, 1, 2), HIGH);
        });
        said("Promise 41", "IllegalArgumentException: no such SHELF; IllegalStateException: no ROW, no such place.", () -> {
            FurrowFair x = fair(PAIR);
            x.keep(0, 1, 0, 0);
            x.row(1, 0, 3);
            x.row(2, 0, 0);
            x.row(3, 0, 120);
            all("element(?, 0)", NO_SHELVES, -21, n -> element(x, n, 0));
            all("element(?, -1)", NO_SHELVES, -21, n -> element(x, n, -1));
            due("nothing is held", element(x, 4, 0), -22);
            due("a fit", element(x, 0, 0), -22);
            due("an empty row", element(x, 2, 0), -22);
            all("element(1, ?)", new int[] {-1, 3, 119, LOW, HIGH}, -22, n -> element(x, 1, n));
            due("behind 120", element(x, 3, 120), -22);
            due("the last of 120", element(x, 3, 119), 0);
            due("without a market", element(none(), 8, 0), -21);
            due("without a market", element(none(), 0, 0), -22);
        });
        said("Promise 42", "n elements of the ROW in SHELF d from i on come to that in SHELF e from j on: n.", () -> {
            FurrowFair x = none();
            for (int d = 0; d < 2; d++) {
                x.row(d, 2, 120);
                for (int i = 0; i < 120; i++) {
                    x.put(d, i, d * 1000 + i);
                }
            }
            due("all", x.copy(0, 0, 1, 0, 120), 120);
            due("the first", element(x, 1, 0), 0);
            due("the last", element(x, 1, 119), 119);
            due("the last to the first", x.copy(0, 119, 1, 0, 1), 1);
            due("the last to the first", element(x, 1, 0), 119);
            due("no more", element(x, 1, 1), 1);
            due("over itself, upward", x.copy(0, 0, 0, 1, 119), 119);
            due("over itself, upward", element(x, 0, 119), 118);
            due("over itself, upward", element(x, 0, 1), 0);
            due("over itself, downward", x.copy(1, 1, 1, 0, 119), 119);
            due("over itself, downward", element(x, 1, 0), 1);
            due("over itself, downward", element(x, 1, 118), 119);
            due("none", x.copy(0, 0, 1, 0, 0), 0);
            due("none at the end", x.copy(0, 120, 1, 120, 0), 0);
        });
        said("Promise 42", "-1, -11 (either), -12 (no ROWS of one SORT), -13 (n below 0, too).", () -> {
            FurrowFair x = fair(PAIR);
            x.row(0, 0, 5);
            x.row(1, 0, 3);
            x.row(2, 1, 5);
            x.keep(3, 1, 0, 0);
            all("copy(?, 0, 1, 0, 1)", NO_SHELVES, -1, n -> x.copy(n, 0, 1, 0, 1));
            all("copy(0, 0, ?, 0, 1)", NO_SHELVES, -1, n -> x.copy(0, 0, n, 0, 1));
            due("the first bare", x.copy(4, 0, 1, 0, 1), -11);
            due("the second bare", x.copy(0, 0, 4, 0, 1), -11);
            due("both bare", x.copy(4, 0, 4, 0, 1), -11);
            due("none of a bare one", x.copy(4, 0, 4, 0, 0), -11);
            due("two sorts", x.copy(0, 0, 2, 0, 1), -12);
            due("a fit first", x.copy(3, 0, 0, 0, 1), -12);
            due("a fit second", x.copy(0, 0, 3, 0, 1), -12);
            due("two fits", x.copy(3, 0, 3, 0, 1), -12);
            all("copy(0, 0, 1, 0, ?)", new int[] {-1, 4, 5, LOW, HIGH}, -13, n -> x.copy(0, 0, 1, 0, n));
            all("copy(0, ?, 1, 0, 1)", new int[] {-1, 5, LOW, HIGH}, -13, n -> x.copy(0, n, 1, 0, 1));
            all("copy(0, 0, 1, ?, 1)", new int[] {-1, 3, LOW, HIGH}, -13, n -> x.copy(0, 0, 1, n, 1));
            all("copy(0, ?, 1, 0, 0)", new int[] {-1, 6, LOW, HIGH}, -13, n -> x.copy(0, n, 1, 0, 0));
            due("one too many from", x.copy(0, 3, 1, 0, 3), -13);
            due("one too many to", x.copy(0, 0, 1, 1, 3), -13);
            due("all that is there", x.copy(0, 2, 1, 0, 3), 3);
            due("a sum beyond int", x.copy(0, HIGH, 1, HIGH, HIGH), -13);
        });
        said("Promise 43", "BREADTH of the FIT on SHELF d (by as many SORTS as there were). -1, -11, -12 (a ROW).", () -> {
            FurrowFair x = fair(FULL);
            all("breadth(?)", NO_SHELVES, -1, x::breadth);
            x.keep(0, 1, 0, 0);
            x.keep(1, 1, 3, 4);
            x.keep(2, 1, 3, 624);
            x.row(3, 2, 0);
            due("bare", x.breadth(4), -11);
            due("an empty row", x.breadth(3), -12);
            read(x, ONE);
            due("fit 0 of four", x.breadth(0), 1);
            due("one away of four", x.breadth(1), 2);
            due("four away", x.breadth(2), 4);
            x.keep(1, 1, 3, 4);
            due("one away of one", x.breadth(1), 1);
            read(x, FULL);
            due("one away of one, as there were", x.breadth(1), 1);
        });
        said("Promise 44", "its number (the FIT's); of TOLD ones 1000 more; of ASKED ones how many MARKS are MADE in place of that.", () -> {
            FurrowFair x = fair(FULL);
            int[] fits = {0, 430, 434, 620, 499};
            int[] made = {1, 4, 3, 1, 0};
            for (int i = 0; i < 4; i++) {
                for (int kind = 0; kind < 6; kind++) {
                    int want = kind == 3 ? -15 : kind == 4 ? 1000 + fits[i] : kind == 5 ? made[i] : fits[i];
                    x.keep(kind, 1, kind, fits[i]);
                    due("toss of " + fits[i] + ", kind " + kind, x.toss(kind), want);
                    due("again", x.toss(kind), want);
                    due("it is held as before", x.breadth(kind) == -11 ? 1 : 0, 0);
                }
            }
        });
        said("Promise 44", "-1, -11, -12 (a ROW); -15: PARTLY ones, and any in which all stay away, have none.", () -> {
            FurrowFair x = fair(FULL);
            all("toss(?)", NO_SHELVES, -1, x::toss);
            due("bare", x.toss(0), -11);
            x.row(0, 0, 0);
            due("an empty row", x.toss(0), -12);
            for (int kind = 0; kind < 6; kind++) {
                x.keep(kind, 1, kind, 624);
                due("all away, kind " + kind, x.toss(kind), -15);
                x.keep(kind, 1, kind, 124);
                due("three of four away, kind " + kind, x.toss(kind) == -15 ? 1 : 0, kind == 3 ? 1 : 0);
            }
            x.keep(0, 1, 0, 4);
            x.keep(1, 1, 0, 624);
            read(x, ONE);
            due("one away of four", x.toss(0), 4);
            due("all away of four", x.toss(1), -15);
            x.keep(0, 1, 0, 4);
            read(x, FULL);
            due("one away of one, as there were", x.toss(0), -15);
        });
    }

    public static void main(String[] args) {
        newObject();
        told();
        fits();
        marks();
        asking();
        edgesAndRuns();
        images();
        shelves();
        for (int promise = 1; promise <= 44; promise++) {
            if (!wasLookedAt("Promise " + promise)) {
                fault("promise " + promise + " is not looked at");
            }
        }
        end();
    }
}
