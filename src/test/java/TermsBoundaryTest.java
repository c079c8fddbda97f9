/** Each sentence of the Terms that names a boundary case, with a look of its own. */
public final class TermsBoundaryTest extends Sentences {

    // ---- Terms 1

    static void sortsAndMarks() {
        said("What it is", "An object is used for at most 512 calls after it has been made", () -> {
            FurrowFair x = fair(PAIR);
            int calls = PAIR.length() + 2;
            while (calls < 511) {
                x.keep(calls % 7, 1, calls % 6, 5);
                calls++;
            }
            due("the 512th call, next(0)", x.next(0), 5);
        });
        said("Terms 1", "SORTS 0 .. 3", () -> {
            FurrowFair x = fair(FULL);
            due("count(0)", x.count(0), 4);
            due("sort(0, 1)", x.sort(0, 1), 10);
            due("sort(3, 1)", x.sort(3, 1), 40);
            due("sort(4, 1)", x.sort(4, 1), -1);
            due("sort(-1, 1)", x.sort(-1, 1), -1);
            due("four sorts", read("s25 1 0;s25 1 0;s25 1 0;s25 1 0;m0 0 0 0 0;"), 5);
            due("five sorts", read("s20 1 0;s20 1 0;s20 1 0;s20 1 0;s20 1 0;m0 0 0 0 0 0;"), -2032);
        });
        said("Terms 1", "a CHANCE (1 .. 100 hundredths; together 100)", () -> {
            due("1 and 99", read("s1 5 0;s99 5 0;m0 0 0;"), 3);
            due("100", read("s100 5 0;m0 0;"), 2);
            due("0 first", read("s0 5 0;s100 5 0;m0 0 0;"), -2000);
            due("0 last", read("s100 5 0;s0 5 0;m0 0 0;"), -2009);
            due("101", read("s101 5 0;m0 0;"), -2000);
            due("together 99", read("s50 5 0;s49 5 0;m0 0 0;"), -3000);
            due("together 101", read("s50 5 0;s51 5 0;m0 0 0;"), -3000);
            due("together 200", read("s100 5 0;s100 5 0;m0 0 0;"), -3000);
            due("together 400", read("s100 5 0;s100 5 0;s100 5 0;s100 5 0;m0 0 0 0 0;"), -3000);
        });
        said("Terms 1", "a WORTH (0 .. 999)", () -> {
            due("0", fair("s100 0 5;m0 0;").sort(0, 1), 0);
            FurrowFair x = fair("s100 999 5;m0 0;");
            due("999", x.sort(0, 1), 999);
            due("1000 in a text", read("s100 1000 5;m0 0;"), -1008);
            due("change to 1000", x.change(0, 0, 1000), -1);
            due("change to -1", x.change(0, 0, -1), -1);
            due("change to 0", x.change(0, 0, 0), 999);
            due("change to 999", x.change(0, 0, 999), 0);
        });
        said("Terms 1", "AWAY (0 .. 999: what one has who stays away)", () -> {
            due("0", fair("s100 5 0;m0 0;").sort(0, 2), 0);
            FurrowFair x = fair("s100 5 999;m0 0;");
            due("999", x.sort(0, 2), 999);
            due("one has it who stays away", x.gets(4, 0, 0), 999);
            due("1000 in a text", read("s100 5 1000;m0 0;"), -1010);
            due("change to 1000", x.change(0, 1, 1000), -1);
            due("change to -1", x.change(0, 1, -1), -1);
            due("change to 0", x.change(0, 1, 0), 999);
            due("change to 999", x.change(0, 1, 999), 0);
        });
        said("Terms 1", "MARKS 0 .. 3", () -> {
            FurrowFair x = fair(FULL);
            due("count(1)", x.count(1), 4);
            due("mark(3, 0)", x.mark(3, 0), 33);
            due("mark(4, 0)", x.mark(4, 0), -1);
            due("mark(-1, 0)", x.mark(-1, 0), -1);
            due("four marks", read("s100 5 0;m0 0;m0 0;m0 0;m0 0;"), 5);
            due("five marks", read("s100 5 0;m0 0;m0 0;m0 0;m0 0;m0 0;"), -2029);
        });
        said("Terms 1", "a USE (0 .. 99: it makes the work of all who make it worth more)", () -> {
            FurrowFair x = fair("s100 5 0;m99 0;");
            due("99", x.mark(0, -1), 99);
            due("worth more", x.pay(0, 0, 0), 104);
            due("100 in a text", read("s100 5 0;m100 0;"), -2009);
            due("cost(0, -1, 100)", x.cost(0, -1, 100), -1);
            due("cost(0, -1, -1)", x.cost(0, -1, -1), -1);
            due("cost(0, -1, 0)", x.cost(0, -1, 0), 99);
            due("cost(0, -1, 99)", x.cost(0, -1, 99), 0);
            due("not worth less than all there is", x.pay(0, 0, 0), 104);
        });
        said("Terms 1", "a COST for each SORT (0 .. 999)", () -> {
            FurrowFair x = fair("s1 5 0;s99 5 0;m0 0 999;");
            due("0", x.mark(0, 0), 0);
            due("999", x.mark(0, 1), 999);
            due("1000 in a text", read("s100 5 0;m0 1000;"), -1015);
            due("cost(0, 1, 1000)", x.cost(0, 1, 1000), -1);
            due("cost(0, 1, -1)", x.cost(0, 1, -1), -1);
            due("cost(0, 1, 0)", x.cost(0, 1, 0), 999);
            due("cost(0, 1, 999)", x.cost(0, 1, 999), 0);
        });
        said("Terms 1", "a TOLD THOUGHT: a SORT, or -1 (open; at first)", () -> {
            FurrowFair x = fair(PAIR);
            due("open at first", x.mark(0, -2), -4);
            due("open at first", x.mark(1, -2), -4);
            due("think(1, -2)", x.think(1, -2), -1);
            due("think(1, 2)", x.think(1, 2), -1);
            due("think(1, 1)", x.think(1, 1), -4);
            due("think(1, 0)", x.think(1, 0), 1);
            due("think(1, -1)", x.think(1, -1), 0);
            due("open again", x.mark(1, -2), -4);
        });
    }

    static void fits() {
        said("Terms 1", "as digits to the base 5 (4: away), SORT 0's the lowest", () -> {
            FurrowFair x = fair(PAIR);
            due("sort 0 in mark 1", x.waste(1), 7500);
            due("sort 1 in mark 1", x.waste(5), 4000);
            due("both away", x.waste(24), 0);
            int[] none = {25, 26, 125, -1, LOW, HIGH, 2, 3, 10, 15, 12, 14, 22};
            for (int fit : none) {
                due("waste(" + fit + ")", x.waste(fit), -1);
            }
            x = fair(ONE);
            due("4 of one sort", x.waste(4), 0);
            due("5 of one sort", x.waste(5), -1);
            x = fair(FULL);
            due("3 of four marks", x.waste(3), 330);
            due("sort 3 in mark 3", x.waste(3 * 125), 1080);
            due("all away", x.waste(624), 0);
            due("625", x.waste(625), -1);
        });
        said("Terms 1", "MADE are MARKS that some SORT makes.", () -> {
            FurrowFair x = fair(FULL);
            int[] sure = {0, 156, 300, 430};
            int[] made = {1, 2, 5, 15};
            for (int i = 0; i < 4; i++) {
                for (int mark = 0; mark < 4; mark++) {
                    boolean is = (made[i] >> mark & 1) == 1;
                    due("barred(" + sure[i] + ", " + mark + ", 0)", x.barred(sure[i], mark, 0) == -3 ? 1 : 0, is ? 1 : 0);
                }
            }
        });
        said("Terms 1", "PAY at a MADE MARK: the mean WORTH of those who make it by CHANCES, and its USE.", () -> {
            FurrowFair x = fair("s1 999 0;s99 0 0;m99 0 0;m1 0 0;t0 0;");
            due("both", x.pay(0, 0, 0), 10899);
            due("both", x.pay(0, 0, 1), 100);
            due("the rare one alone", x.pay(5, 0, 0), 1098);
            due("the frequent one alone, whatever is told", x.pay(1, 0, 0), 99);
            due("who stays away does not count", x.pay(20, 0, 0), 1098);
            x = fair(FULL);
            due("all of four", x.pay(0, 0, 0), 30);
            due("the last of four", x.pay(430, 3, 0), 40);
        });
        said("Terms 1", "the TOLD one; if that is open, one of the least WORTH.", () -> {
            FurrowFair x = fair("s30 7 0;s30 7 0;s40 9 0;m0 0 0 0;m5 9 9 9;");
            due("two of the least", x.pay(0, 1, 0), 12);
            x.think(1, 2);
            due("told the most", x.pay(0, 1, 0), 14);
            x.think(1, 1);
            due("told one of the least", x.pay(0, 1, 0), 12);
            x.think(1, -1);
            x.change(2, 0, 0);
            due("the last is the least", x.pay(0, 1, 0), 5);
            x.change(0, 0, 999);
            x.change(1, 0, 999);
            x.change(2, 0, 999);
            due("all of the most", x.pay(0, 1, 0), 1004);
            due("all away", x.pay(124, 0, 0), 999);
        });
        said("Terms 1", "A SORT GETS: PAY less its COST; or AWAY.", () -> {
            FurrowFair x = fair("s100 0 0;m0 999;");
            due("the least", x.gets(0, 0, 0), -999);
            due("below the line", x.gets(0, 0, 1), 1);
            due("away", x.gets(4, 0, 0), 0);
            due("away", x.gets(4, 0, 1), 1);
            x = fair("s100 999 999;m99 0;");
            due("the most", x.gets(0, 0, 0), 1098);
            due("away", x.gets(4, 0, 0), 999);
        });
        said("Terms 1", "All is compared exactly.", () -> {
            FurrowFair x = fair("s1 1 0;s99 999 989;m0 0 0;");
            due("989.02 beside 989", x.rather(0), -4);
            x.change(1, 1, 990);
            due("989.02 beside 990", x.rather(0), 14);
            x = fair("s33 0 33;s67 50 33;m0 0 0;");
            due("33.5 beside 33", x.rather(0), -4);
            x.change(0, 1, 34);
            due("33.5 beside 34", x.rather(0), 4);
        });
        said("Terms 1", "RATHER: the first SORT (and the first MARK, away behind all) that would GET more there than it GETS in the FIT", () -> {
            FurrowFair x = fair("s100 50 41;m0 9;m0 5;m0 0;");
            due("the first mark, not the best", x.rather(0), 1);
            due("from the second mark", x.rather(1), 2);
            due("none", x.rather(2), -4);
            x.change(0, 1, 46);
            due("away behind a mark", x.rather(0), 1);
            due("away behind the last mark", x.rather(1), 2);
            x.cost(2, 0, 9);
            due("away", x.rather(1), 4);
            due("the first mark is as much as away", fair("s100 50 50;m0 0;").rather(4), -4);
            x = fair(PAIR);
            due("the first sort", x.rather(24), 0);
            due("the second sort", x.rather(20), 10);
            x.change(0, 1, 150);
            due("as much is not more", x.rather(0), -4);
            x.change(0, 1, 151);
            due("more", x.rather(0), 4);
            x = fair(FULL);
            x.think(3, 3);
            x.cost(3, 3, 9);
            due("the last sort, the last mark", x.rather(0), 33);
            x.cost(3, 3, 10);
            due("30 beside 30", x.rather(0), -4);
        });
        said("Terms 1", "a FIT is SURE, if there is none.", () -> {
            FurrowFair x = fair(PAIR);
            due("fit 5", x.rather(5), -4);
            due("fit 5 counts", x.next(4), 5);
            due("fit 6", x.rather(6) == -4 ? 1 : 0, 0);
            due("fit 6 does not count", x.next(5), -4);
        });
    }

    static void shelves() {
        said("Terms 1", "HELD ones (on SHELVES) are FITS of KINDS: 0 FIT; 1 APART under FIT; 2 TOGETHER under FIT; 3 PARTLY under FIT; "
                + "4 TOLD under APART; 5 ASKED under TOGETHER.", () -> {
            FurrowFair x = fair(PAIR);
            for (int kind = 0; kind < 6; kind++) {
                due("kind " + kind, x.keep(0, 1, kind, 5), 0);
            }
            due("kind 6", x.keep(0, 1, 6, 5), -1);
            due("kind -1", x.keep(0, 1, -1, 5), -1);
        });
        said("Terms 1", "BREADTH: FIT how many MARKS are MADE; APART twice a FIT's; TOGETHER 5 more than a FIT's; PARTLY a FIT's and how many "
                + "SORTS stay away; TOLD 1 more than an APART's; ASKED twice a TOGETHER's.", () -> {
            FurrowFair x = fair(FULL);
            int[] allMade = {4, 8, 9, 4, 9, 18};
            int[] allAway = {0, 0, 5, 4, 1, 10};
            int[] oneAway = {3, 6, 8, 4, 7, 16};
            int[] together = {1, 2, 6, 1, 3, 12};
            for (int kind = 0; kind < 6; kind++) {
                x.keep(kind, 1, kind, 430);
                due("all made, kind " + kind, x.breadth(kind), allMade[kind]);
                x.keep(kind, 1, kind, 624);
                due("all away, kind " + kind, x.breadth(kind), allAway[kind]);
                x.keep(kind, 1, kind, 434);
                due("sort 0 away, kind " + kind, x.breadth(kind), oneAway[kind]);
                x.keep(kind, 1, kind, 468);
                due("all in mark 3, kind " + kind, x.breadth(kind), together[kind]);
            }
        });
        said("Terms 1", "SHELVES 0 .. 7 each hold nothing (at first), a FIT, a ROW.", () -> {
            FurrowFair x = fair(PAIR);
            x.keep(7, 0, 0, 0);
            for (int d = 0; d < 8; d++) {
                due("nothing at first on " + d, x.breadth(d), -11);
            }
            for (int d = 0; d < 8; d += 2) {
                x.row(d, 2, 1);
                x.put(d, 0, 100 + d);
                x.keep(d + 1, 1, 2, 0);
            }
            for (int d = 0; d < 8; d += 2) {
                due("row on " + d, element(x, d, 0), 100 + d);
                due("fit on " + (d + 1), x.breadth(d + 1), 6);
            }
            int[] none = {-1, 8, LOW, HIGH};
            for (int d : none) {
                due("breadth(" + d + ")", x.breadth(d), -1);
                due("row(" + d + ")", x.row(d, 0, 1), -1);
                due("element(" + d + ")", element(x, d, 0), -21);
            }
        });
        said("Terms 1", "A ROW has a SORT (0 bytes, 1 shorts, 2 ints; a ROW's SORT is no SORT of the market)", () -> {
            FurrowFair x = fair(ONE);
            due("bytes", x.row(0, 0, 1), 0);
            due("shorts in a market of one sort", x.row(0, 1, 1), 0);
            due("ints in a market of one sort", x.row(0, 2, 1), 0);
            due("row(0, 3, 1)", x.row(0, 3, 1), -1);
            due("row(0, -1, 1)", x.row(0, -1, 1), -1);
        });
        said("Terms 1", "0 .. 120 elements, 0 at first", () -> {
            FurrowFair x = new FurrowFair();
            for (int sort = 0; sort < 3; sort++) {
                due("none", x.row(0, sort, 0), 0);
                due("none is there", x.put(0, 0, 1), -13);
                due("120", x.row(0, sort, 120), 0);
                due("the last", x.put(0, 119, 5), 0);
                due("behind the last", x.put(0, 120, 5), -13);
                due("121", x.row(0, sort, 121), -1);
                due("kept", element(x, 0, 119), 5);
                due("a new one", x.row(0, sort, 120), 0);
                due("0 again", element(x, 0, 119), 0);
                due("0 at first", element(x, 0, 0), 0);
            }
        });
        said("Terms 1", "what is put in keeps its lowest bits", () -> {
            int[] put = {127, 128, 255, 256, -128, -129, 32767, 32768, 65535, 65536, -32768, -32769, LOW, HIGH};
            int[] bytes = {127, -128, -1, 0, -128, 127, -1, 0, -1, 0, 0, -1, 0, -1};
            int[] shorts = {127, 128, 255, 256, -128, -129, 32767, -32768, -1, 0, -32768, 32767, 0, -1};
            FurrowFair x = new FurrowFair();
            for (int sort = 0; sort < 3; sort++) {
                x.row(sort, sort, put.length);
                for (int i = 0; i < put.length; i++) {
                    due("put", x.put(sort, i, put[i]), 0);
                }
            }
            for (int i = 0; i < put.length; i++) {
                due(put[i] + " in bytes", element(x, 0, i), bytes[i]);
                due(put[i] + " in shorts", element(x, 1, i), shorts[i]);
                due(put[i] + " in ints", element(x, 2, i), put[i]);
            }
            x.row(7, 0, ONE.length());
            for (int i = 0; i < ONE.length(); i++) {
                x.put(7, i, ONE.charAt(i) + 256 * i);
            }
            due("a text by its lowest bits", x.market(7), 2);
        });
        said("Terms 1", "-11 nothing is held where something is wanted", () -> {
            FurrowFair x = fair(PAIR);
            x.row(1, 0, 2);
            due("market(0)", x.market(0), -11);
            due("makes(0, 0)", x.makes(0, 0), -11);
            due("loses(0)", x.loses(0), -11);
            due("broken(0)", x.broken(0), -11);
            due("put(0, 0, 0)", x.put(0, 0, 0), -11);
            due("copy(0, 0, 1, 0, 1)", x.copy(0, 0, 1, 0, 1), -11);
            due("copy(1, 0, 0, 0, 1)", x.copy(1, 0, 0, 0, 1), -11);
            due("breadth(0)", x.breadth(0), -11);
            due("toss(0)", x.toss(0), -11);
            x.keep(1, 0, 0, 0);
            due("put(1, 0, 0) when it holds nothing any more", x.put(1, 0, 0), -11);
        });
        said("Terms 1", "-12 it is of another kind", () -> {
            FurrowFair x = fair(PAIR);
            x.keep(0, 1, 0, 5);
            x.row(1, 2, 2);
            due("market of a fit", x.market(0), -12);
            due("market of ints", x.market(1), -12);
            due("makes by a fit", x.makes(0, 0), -12);
            due("makes by ints", x.makes(1, 0), -12);
            due("put into a fit", x.put(0, 0, 0), -12);
            due("copy of a fit", x.copy(0, 0, 1, 0, 1), -12);
            due("breadth of a row", x.breadth(1), -12);
            due("toss of a row", x.toss(1), -12);
        });
        said("Terms 1", "-13 a place that isn't there", () -> {
            FurrowFair x = fair(PAIR);
            x.row(0, 1, 2);
            int[] none = {-1, 2, LOW, HIGH};
            for (int i : none) {
                due("put(0, " + i + ", 0)", x.put(0, i, 0), -13);
                due("copy from " + i, x.copy(0, i, 0, 0, 1), -13);
                due("copy to " + i, x.copy(0, 0, 0, i, 1), -13);
                due("element " + i, element(x, 0, i), -22);
            }
        });
        said("Terms 1", "-14 a size below 0", () -> {
            FurrowFair x = new FurrowFair();
            due("row(0, 0, -1)", x.row(0, 0, -1), -14);
            due("row(7, 2, LOW)", x.row(7, 2, LOW), -14);
            due("row(0, 0, 0)", x.row(0, 0, 0), 0);
        });
        said("Terms 1", "-15 a FAILURE that is none", () -> {
            FurrowFair x = fair(ONE);
            x.keep(0, 1, 3, 0);
            due("a partly one", x.toss(0), -15);
            x.keep(0, 1, 0, 4);
            due("all stay away", x.toss(0), -15);
            x.keep(0, 1, 0, 0);
            due("fit 0 has the failure 0", x.toss(0), 0);
        });
    }

    // ---- Terms 2

    /** All ahead of the mark's letter takes 9 bytes, with the mark 14. */
    static final String BEFORE = "s100 5 9;";
    static final String HEAD = "s100 5 9;m0 0;";
    /** 120 bytes in 15 statements. */
    static final String WHOLE_ROW = "s10 10 1;s20 20 2;s30 30 3;s40 40 4;m10 0 0 0 0;m2 5 4 3 2;m3 9 8 7 6;m4 50 40 30 20;"
            + "t0 0;t0 0;t0 0;t0 0;t0 0;t0 0;t0 0;";

    static void readings(String[] texts, int... want) {
        for (int i = 0; i < texts.length; i++) {
            due("market of '" + texts[i] + "'", read(texts[i]), i < want.length ? want[i] : 0);
        }
    }

    static void form() {
        said("Terms 2", "STATEMENTS, each with ; behind", () -> readings(new String[] {
            HEAD, "s100 5 9;m0 0", HEAD + " ", "s100 5 9 m0 0;", ";", "s100 5 9;;m0 0;", " " + HEAD, HEAD + ";", "s100 5 9m0 0;",
        }, 2, -1013, -1014, -1008, -1000, -1009, -1000, -1014, -1008));
        said("Terms 2", "s and three NUMBERS with a blank between: CHANCE, WORTH, AWAY of a SORT more", () -> {
            readings(new String[] {
                "s", "s;", "s 1 2 3;", "s100  1 2;", "s100 1;", "s100;", "s100 1 2 3;", "s100,1 2;", "s100 1 ;", "s100 1 2 ;", "s-1 1 2;", "S100 5 9;m0 0;",
            }, -1001, -1001, -1001, -1005, -1006, -1004, -1008, -1004, -1007, -1008, -1001, -1000);
            FurrowFair x = fair("s40 7 8;s60 9 10;m0 0 0;");
            due("chance", x.sort(0, 0), 40);
            due("worth", x.sort(1, 1), 9);
            due("away", x.sort(1, 2), 10);
        });
        said("Terms 2", "m and USE, and for each SORT there is a blank and its COST: a MARK more", () -> {
            readings(new String[] {
                BEFORE + "m;", BEFORE + "m 0;", BEFORE + "m0 ;", BEFORE + "m0  0;", BEFORE + "m0,0;", BEFORE + "m0 0 ;", BEFORE + "m0 -1;", BEFORE + "M0 0;",
            }, -1010, -1010, -1012, -1012, -1011, -1014, -1012, -1009);
            FurrowFair x = fair("s40 7 8;s60 9 10;m5 6 7;m8 9 10;");
            due("marks", x.count(1), 2);
            due("use", x.mark(1, -1), 8);
            due("cost of sort 0", x.mark(1, 0), 9);
            due("cost of sort 1", x.mark(0, 1), 7);
        });
        said("Terms 2", "t and two NUMBERS: the TOLD THOUGHT of a MARK is a SORT.", () -> {
            readings(new String[] {
                HEAD + "t;", HEAD + "t0;", HEAD + "t0 ;", HEAD + "t0 0 0;", HEAD + "t 0 0;", HEAD + "t0  0;", HEAD + "t-1 0;", HEAD + "t0 -1;", HEAD + "T0 0;", HEAD + "t0 0;",
            }, -1015, -1016, -1017, -1018, -1015, -1017, -1015, -1017, -1014, 3);
            FurrowFair x = fair("s40 7 8;s60 9 10;m5 6 7;m8 9 10;t1 0;t1 1;");
            due("told twice: the later", x.mark(1, -2), 1);
            due("the other stays open", x.mark(0, -2), -4);
        });
        said("Terms 2", "NUMBERS have 1 to 3 digits", () -> readings(new String[] {
            "s1000 5 9;", "s100 1000 9;", "s100 5 1000;", BEFORE + "m1000 0;", BEFORE + "m0 1000;", HEAD + "t1000 0;", HEAD + "t0 1000;",
            "s100 999 999;m99 999;t0 0;", "s 5 9;", "s10/ 5 9;", "s10: 5 9;", "s100 1",
        }, -1004, -1008, -1010, -1013, -1015, -1018, -1020, 3, -1001, -1003, -1003, -1006));
        said("Terms 2", "no 0 ahead of another", () -> readings(new String[] {
            "s00 5 9;", "s05 5 9;", "s100 05 9;", "s100 5 00;", BEFORE + "m00 0;", BEFORE + "m0 00;", HEAD + "t00 0;", HEAD + "t0 01;",
            "s100 0 0;m0 0;t0 0;", "s100 100 100;m10 100;",
        }, -1002, -1002, -1006, -1008, -1011, -1013, -1016, -1018, 3, 2));
        said("Terms 2", "At least one STATEMENT.", () -> {
            due("an empty row", read(""), -1000);
            FurrowFair x = new FurrowFair();
            x.row(0, 0, 120);
            due("a row of zeros", x.market(0), -1000);
            due("one statement", read("s100 5 9;"), -3000);
        });
        said("Terms 2", "kind 1 the place of the first byte with which no MARKET can go on", () -> {
            readings(new String[] {
                "xs", "s1x y", "l100 5 9;", "r100 5 9;", "n0;", "u0 0;", "\u0000", "\u00e9", "s1\u00e9", "s100 5 9;m0 0;s", HEAD + "0", "s100 5 9;m0 0\u00003",
            }, -1000, -1002, -1000, -1000, -1000, -1000, -1000, -1000, -1002, -1015, -1014, -1013);
            String text = WHOLE_ROW.substring(0, 119) + "x";
            due("at the last place of all", read(text), -1119);
        });
        said("Terms 2", "(the size, if it ends too early;", () -> {
            String text = "s50 5 9;s50 7 9;m0 0 10;t0 1;";
            int[] ended = {-3000, -3000, 3, 4};
            int statements = 0;
            for (int n = 0; n <= text.length(); n++) {
                boolean end = n > 0 && text.charAt(n - 1) == ';';
                due("the first " + n, read(text.substring(0, n)), end ? ended[statements] : -1000 - n);
                statements += end ? 1 : 0;
            }
            due("120 bytes without the last ;", read(WHOLE_ROW.substring(0, 110) + "t0 0;t0 0 ".substring(0, 9) + "0"), -1119);
            due("120 bytes, too early", read(WHOLE_ROW.substring(0, 115) + "t0 11"), -1120);
        });
        said("Terms 2", "how many COSTS there are doesn't matter for that)", () -> {
            String many = BEFORE + "m0" + " 0".repeat(54);
            due("no cost", read(BEFORE + "m0;"), -2009);
            due("four more", read(BEFORE + "m0 0 0 0 0 0;"), -2009);
            due("fifty-four", read(many + ";"), -2009);
            due("a wrong byte behind as many", read(many + "x"), -1119);
            due("too early behind as many", read(many + "0"), -1119);
            due("as many of two digits", read(BEFORE + "m10" + " 0".repeat(54)), -1120);
            due("a wrong byte behind none", read(BEFORE + "m0;x"), -1012);
            due("costs ahead of all sorts", read("m0 0 0;s100 5 9;"), -2000);
        });
    }

    static void faults() {
        said("Terms 2", "else kind 2 the place of the letter of the first STATEMENT that isn't as told", () -> {
            due("two of them", read("s0 5 9;s101 5 9;m0 0 0;"), -2000);
            due("the second of two sorts", read("s50 5 9;s0 5 9;m100 0 0;"), -2008);
            due("far behind", read(WHOLE_ROW.substring(0, 115) + "t4 0;"), -2115);
            due("a whole row", read(WHOLE_ROW), 15);
            due("kind 1 far behind goes ahead", read("s0 5 9;s100 5 9;m0 0 0;x"), -1023);
            due("too early goes ahead", read("s0 5 9;s100 5 9;m0 0 0"), -1022);
            due("kind 2 goes ahead of kind 3", read("s99 5 9;t0 0;"), -2008);
        });
        said("Terms 2", "(a number out of range,", () -> readings(new String[] {
            "s0 5 9;m0 0;", "s1 5 9;m0 0;", "s100 5 9;m0 0;", "s101 5 9;m0 0;", "s999 5 9;m0 0;", BEFORE + "m99 0;", BEFORE + "m100 0;", BEFORE + "m999 0;",
        }, -2000, -3000, 2, -2000, -2000, 2, -2009, -2009));
        said("Terms 2", "too many SORTS, MARKS,", () -> readings(new String[] {
            "s1 0 0;s1 0 0;s1 0 0;s97 0 0;m0 0 0 0 0;", "s1 0 0;s1 0 0;s1 0 0;s96 0 0;s1 0 0;m0 0 0 0 0 0;",
            BEFORE + "m0 0;m0 0;m0 0;m0 0;", BEFORE + "m0 0;m0 0;m0 0;m0 0;m0 0;",
        }, 5, -2029, 5, -2029));
        said("Terms 2", "a SORT behind a MARK,", () -> readings(new String[] {
            "s50 5 9;m0 0;s50 5 9;", HEAD + "s1 5 9;", "m0;s100 5 9;", HEAD + "t0 0;s1 5 9;",
        }, -2013, -2014, -2003, -2019));
        said("Terms 2", "too few or many COSTS,", () -> {
            String two = "s50 5 9;s50 5 9;";
            readings(new String[] {two + "m0;", two + "m0 0;", two + "m0 0 0;", two + "m0 0 0 0;", two + "m0 0 0;m0 0;", "m0 0;", "m0;"},
                -2016, -2016, 3, -2016, -2023, -2000, -3000);
        });
        said("Terms 2", "no such MARK, SORT)", () -> readings(new String[] {
            HEAD + "t0 0;", HEAD + "t1 0;", HEAD + "t0 1;", HEAD + "t999 0;", HEAD + "t0 999;", BEFORE + "t0 0;m0 0;", "t0 0;", FULL + "t3 3;", FULL + "t4 3;", FULL + "t3 4;",
        }, 3, -2014, -2014, -2014, -2014, -2009, -2000, 9, -2089, -2089));
        said("Terms 2", "else kind 3 (place 0): CHANCES aren't 100 together, or there is no MARK", () -> readings(new String[] {
            "s100 5 9;", "s99 5 9;m0 0;", "s50 5 9;s51 5 9;m0 0 0;", "m0;", "s99 5 9;",
        }, -3000, -3000, -3000, -3000, -3000));
        said("Terms 2", "-1000 times the kind less the place.", () -> readings(new String[] {
            "x", "s100 5 9;x", "s0 5 9;m0 0;", HEAD + "t1 0;", "m0;",
        }, -1000, -1009, -2000, -2014, -3000));
        said("Terms 2", "Without FAULT it is THE MARKET (in place of the one ahead)", () -> {
            FurrowFair x = fair(FULL);
            x.think(0, 3);
            x.rate(30);
            due("a smaller one", read(x, "s100 5 9;m3 4;"), 2);
            due("sorts", x.count(0), 1);
            due("marks", x.count(1), 1);
            due("told thoughts", x.count(2), 0);
            due("no sort 1", x.sort(1, 0), -1);
            due("no mark 1", x.mark(1, 0), -1);
            due("fit 5", x.rather(5), -1);
            due("rate", x.rate(0), 0);
            due("a larger one", read(x, FULL), 8);
            FurrowFair y = fair("s100 50 0;m0 0;m0 0;m0 0;m0 0;");
            due("four marks", y.all(0), 4);
            read(y, "s100 0 0;m0 0;");
            due("one mark: nothing draws away", y.rather(0), -4);
            due("one mark", y.all(0), 2);
            due("one mark, nothing left to offer", y.next(0), 4);
            due("open", x.mark(0, -2), -4);
            due("its sort 3", x.sort(3, 0), 40);
        });
        said("Terms 2", "with one nothing changes.", () -> {
            String[] texts = {"", "s40 1 2;s60 1 2;m9 8 8;x", "s40 1 2;s60 1 2;m9 8 8;t1 0;", "s40 1 2;s59 1 2;m9 8 8;", "s100 1 2;"};
            int[] want = {-1000, -1023, -2023, -3000, -3000};
            for (int i = 0; i < texts.length; i++) {
                FurrowFair x = fair(PAIR);
                x.rate(30);
                x.think(1, 1);
                x.image();
                x.keep(0, 1, 1, 5);
                x.row(7, 0, texts[i].length());
                for (int c = 0; c < texts[i].length(); c++) {
                    x.put(7, c, texts[i].charAt(c));
                }
                String was = state(x);
                due("market of '" + texts[i] + "'", x.market(7), want[i]);
                same("'" + texts[i] + "'", state(x), was);
                due("the fits that are sure", x.all(1), 2);
                due("the image is there", x.restore(), 2);
            }
            String[] broken = {"s", "s12x", "s100 5", "s0 5 9;m0 0;", HEAD + "t0 "};
            for (String text : broken) {
                FurrowFair again = new FurrowFair();
                read(again, text);
                due("a text after '" + text + "'", read(again, HEAD), 2);
                due("its worth after '" + text + "'", again.sort(0, 1), 5);
            }
            FurrowFair none = new FurrowFair();
            due("no market yet", read(none, "s40 1 2;s59 1 2;m9 8 8;"), -3000);
            due("none by a fault", none.rather(0), -3);
            due("none by a fault", none.count(0), 0);
        });
        said("Terms 2", "Without a MARKET calls that tell -3 answer that, ahead of all else.", () -> {
            FurrowFair x = new FurrowFair();
            int[] all = {
                x.sort(9, 9), x.mark(9, 9), x.change(9, 9, -1), x.cost(9, 9, -1), x.think(9, 9), x.rather(-1), x.next(-2), x.all(9), x.falls(-1),
                x.barred(-1, 9, 9), x.apart(), x.justNot(-1), x.waste(-1), x.inOne(0, 0), x.bars(-1), x.leastBar(9), x.makes(8, 0), x.makes(0, 0),
                x.loses(8), x.loses(0), x.broken(8), x.broken(0), x.edge(-1, 0, 0), x.run(-1, 0, 0, 9), x.rate(101), x.ratherOver(-1, 0),
                x.bestTax(9, 9), x.moved(0, 0, 0), x.losers(-1, 9), x.standing(), x.image(), x.restore(), x.keep(0, 1, 9, 9),
            };
            for (int i = 0; i < all.length; i++) {
                due("call " + i, all[i], -3);
            }
            x.row(0, 1, 200);
            x.row(0, 0, 3);
            due("makes by bytes", x.makes(0, 0), -3);
            due("loses by bytes", x.loses(0), -3);
            due("broken by bytes", x.broken(0), -3);
        });
    }

    // ---- Terms 3

    static void secondThoughts() {
        said("Terms 3", "in a FIT that is SURE, at a MARK that isn't MADE", () -> {
            FurrowFair x = fair(THREE);
            due("not sure", x.falls(35), -3);
            due("not sure", x.barred(35, 1, 0), -3);
            due("made", x.barred(0, 0, 0), -3);
            due("sure, not made", x.barred(0, 1, 0), 1);
            x = fair(FULL);
            due("all are made", x.falls(430), -4);
            due("all are made", x.barred(430, 3, 3), -3);
        });
        said("Terms 3", "a SORT is BARRED, if the most that it could GET there (any SORT being thought) is less than it GETS.", () -> {
            FurrowFair x = fair(THREE);
            due("39 beside 32", x.barred(0, 2, 2), 0);
            x.cost(2, 2, 27);
            due("as much is not less", x.barred(0, 2, 2), 0);
            x.cost(2, 2, 28);
            due("31 beside 32", x.barred(0, 2, 2), 1);
            x.cost(2, -1, 1);
            due("the use counts", x.barred(0, 2, 2), 0);
            x = fair("s100 0 0;m0 0;m0 1;");
            due("-1 beside 0", x.barred(0, 1, 0), 1);
            x.cost(1, 0, 0);
            due("0 beside 0", x.barred(0, 1, 0), 0);
            x = fair("s100 999 999;m0 999;m99 99;");
            due("999 beside 999, who stays away", x.barred(4, 1, 0), 0);
            x.cost(1, 0, 100);
            due("998 beside 999, who stays away", x.barred(4, 1, 0), 1);
        });
        said("Terms 3", "If not all are BARRED, the THOUGHT there must be a SORT that isn't", () -> {
            FurrowFair x = fair(THREE);
            due("only sort 2 is not barred", x.falls(0), 22);
            x.cost(2, 2, 28);
            due("all are barred", x.falls(0), -4);
            FurrowFair one = fair("s100 9 0;m0 0;m0 1;");
            due("the only one is barred", one.falls(0), -4);
            one.cost(1, 0, 0);
            due("the only one is not barred and gets as much", one.falls(0), -4);
        });
        said("Terms 3", "the one of these with the least WORTH (whatever is TOLD)", () -> {
            FurrowFair x = fair(THREE);
            for (int told = -1; told < 3; told++) {
                x.think(2, told);
                due("told " + told, x.rather(0) == -4 ? x.falls(0) : 22, 22);
            }
            x.think(2, 0);
            due("sure with sort 0 told", x.rather(0), -4);
            due("falls whatever is told", x.falls(0), 22);
            x.cost(2, 1, 27);
            due("sort 1, with as much, is thought", x.falls(0), -4);
            x.cost(2, 1, 28);
            due("sort 1 is barred", x.falls(0), 22);
        });
        said("Terms 3", "the one of these with the least WORTH", () -> {
            // All in mark 0 get 22.1; sort 2 is barred at mark 1, of the others sort 1 is worth less.
            FurrowFair x = fair("s10 99 0;s10 50 0;s80 9 0;m0 0 0 0;m0 27 27 99;");
            due("50 less 27", x.falls(0), 10);
            x.cost(1, 0, 28);
            due("50 less 28, and 27", x.falls(0), 11);
            x.cost(1, 1, 28);
            due("50 less 28, twice", x.falls(0), -4);
        });
        said("Terms 3", "if then some SORT would GET more there than it GETS, the FIT FALLS by that MARK (the first such), by that SORT (the first such).", () -> {
            FurrowFair x = fair("s30 9 0;s30 19 0;s40 59 5;m0 0 0 0;m0 60 45 20;m0 60 45 20;");
            due("two marks", x.falls(0), 12);
            x.cost(1, 2, 28);
            due("the second mark", x.falls(0), 22);
            x.cost(2, 2, 27);
            due("as much is not more", x.falls(0), -4);
            x.cost(2, 2, 26);
            due("one more", x.falls(0), 22);
            x = fair("s80 9 0;s10 99 0;s10 99 0;m0 0 0 0;m0 99 20 20;");
            due("two sorts", x.falls(0), 11);
            x.cost(1, 1, 99);
            due("the second of them", x.falls(0), 12);
            // Mark 0 is not made, and falls too: all in mark 1 get 27.
            x = fair("s80 9 0;s10 99 0;s10 99 0;m0 99 20 20;m0 0 0 0;");
            due("the first mark of all", x.falls(31), 1);
            x = fair("s10 99 0;s90 9 0;m0 0 0;m3 20 99;");
            due("the first sort of all", x.falls(0), 10);
            x.cost(1, 0, 84);
            due("102 less 84 is as much as 18", x.falls(0), -4);
            x.cost(1, 0, 83);
            due("the use counts", x.falls(0), 10);
        });
        said("Terms 3", "Else it is LEFT.", () -> {
            FurrowFair x = fair(THREE);
            due("sure", x.all(0), 2);
            due("left", x.all(2), 1);
            due("the other is left", x.falls(x.next(0)), -4);
            x.cost(2, 2, 27);
            due("both are left", x.all(2), 2);
        });
    }

    static void lots() {
        said("Terms 3", "in a FIT in which it makes a, with others perhaps, nobody else making b", () -> {
            FurrowFair x = fair("s25 100 0;s25 200 0;s50 150 0;m0 0 0 0;m0 150 80 0;");
            due("sort 2 away", x.lots(100, 1, 1, 0), 1);
            due("sort 2 away", x.lots(100, 1, 1, 1), 4);
            due("sort 2 makes b", x.lots(25, 1, 1, 0), NOF);
            due("it makes b itself", x.lots(105, 1, 1, 0), NOF);
            due("it stays away", x.lots(120, 1, 1, 0), NOF);
            due("it makes a alone", x.lots(104, 1, 1, 0), NOF);
            due("a is b", x.lots(100, 1, 0, 0), NOF);
        });
        said("Terms 3", "(at b PAY is its own WORTH and USE)", () -> {
            FurrowFair x = fair(PAIR);
            due("2 by 8", x.lots(0, 1, 1, 1), 4);
            x.think(1, 0);
            due("whatever is told", x.lots(0, 1, 1, 1), 4);
            x.cost(1, -1, 20);
            // 40 by 60 now: T = 200 + 20 - 80 = 140.
            due("the use counts", x.lots(0, 1, 1, 0), 2);
            due("the use counts", x.lots(0, 1, 1, 1), 3);
        });
        said("Terms 3", "T being its WORTH, USE and COST of b as there are: WORTH and USE of b less COST of b, and COST of a less USE of a", () -> {
            FurrowFair x = fair("s50 100 0;s50 200 0;m4 0 5;m9 150 80;");
            // T = 200 + 9 - 80 + 5 - 4 = 130: 50 (-30) by 50 (-70).
            due("3 by 7", x.lots(0, 1, 1, 0), 3);
            due("3 by 7", x.lots(0, 1, 1, 1), 7);
            x.cost(0, 0, 999);
            due("what it costs others is nothing to it", x.lots(0, 1, 1, 1), 7);
        });
        said("Terms 3", "told if it is above 0 and below 1, in least terms.", () -> {
            FurrowFair least = fair("s1 198 0;s99 200 0;m0 0 0;m0 0 1;");
            due("1 by 99", least.lots(0, 1, 1, 0), 1);
            due("1 by 99", least.lots(0, 1, 1, 1), 99);
            FurrowFair x = fair(PAIR);
            int[] costs = {80, 60, 51, 50, 49, 99, 100, 101, 999, 0, 1};
            long[] above = {1, 2, 49, NOF, NOF, 1, NOF, NOF, NOF, NOF, NOF};
            long[] below = {4, 3, 51, NOF, NOF, 99, NOF, NOF, NOF, NOF, NOF};
            for (int i = 0; i < costs.length; i++) {
                x.cost(1, 1, costs[i]);
                due("cost " + costs[i], x.lots(0, 1, 1, 0), above[i]);
                due("cost " + costs[i], x.lots(0, 1, 1, 1), below[i]);
            }
            // By a use the one of less worth would go: T = 100 + use, (200 - T) by (T - 100).
            x.cost(1, 0, 0);
            x.cost(1, -1, 60);
            due("above, use 60", x.lots(0, 0, 1, 0), 2);
            due("below, use 60", x.lots(0, 0, 1, 1), 3);
            x.cost(1, -1, 50);
            due("use 50: 1 is not below 1", x.lots(0, 0, 1, 0), NOF);
            x.cost(1, -1, 51);
            due("use 51", x.lots(0, 0, 1, 0), 49);
            x.cost(1, -1, 0);
            due("nothing below the line", x.lots(0, 0, 1, 0), NOF);
            x = fair("s10 0 0;s90 999 0;m0 0 0;m99 0 0;");
            x.cost(1, 1, 99);
            due("the use is its cost: nothing below the line", x.lots(0, 1, 1, 0), NOF);
        });
    }

    static void apartAndGain() {
        said("Terms 3", "of FITS that are SURE in which no two SORTS make the same MARK and none stays away the one with the least WASTE, of several the least number.", () -> {
            due("of the full market", fair(FULL).apart(), 430);
            due("more sorts than marks", fair("s50 5 0;s50 5 0;m0 0 0;").apart(), -4);
            FurrowFair x = fair("s100 50 0;m3 7;m0 4;");
            due("the least waste", x.apart(), 1);
            x.cost(1, 0, 7);
            x.cost(1, -1, 3);
            due("the least number of several", x.apart(), 0);
            x.change(0, 1, 50);
            due("all stay away", x.apart(), -4);
            x.cost(0, 0, 3);
            due("as much as away", x.apart(), 0);
            x = fair(PAIR);
            due("each its own", x.apart(), 5);
            x.cost(1, 0, 99);
            due("not sure", x.apart(), -4);
            x.cost(1, 0, 100);
            x.cost(1, 1, 100);
            due("just sure", x.apart(), 5);
            x.cost(1, 1, 101);
            due("the other would rather", x.apart(), -4);
        });
        said("Terms 3", "(one that it doesn't make; or away, 4, if it doesn't stay away) by which it would lose least; of several the first SORT, then MARK", () -> {
            FurrowFair x = fair(PAIR);
            due("the second sort loses 20", x.justNot(5), 10);
            x.change(1, 1, 101);
            due("away: 19", x.justNot(5), 14);
            x.change(1, 1, 100);
            due("the mark ahead of away", x.justNot(5), 10);
            x.change(0, 1, 80);
            due("the first sort of two that lose 20", x.justNot(5), 4);
            x.change(0, 1, 79);
            due("the second loses less", x.justNot(5), 10);
            x = fair("s100 9 50;m0 0;");
            due("who stays away has the mark", x.justNot(4), 0);
            x = fair("s100 50 9;m0 0;");
            due("who makes the only mark has away", x.justNot(0), 4);
            x = fair("s100 50 0;m0 0;m0 5;m0 5;");
            due("the first mark of two", x.justNot(0), 1);
            x = fair("s100 50 0;m0 0;m0 0;");
            due("to lose nothing", x.justNot(1), 0);
            due("of the full market", fair(FULL).justNot(430), 1);
        });
        said("Terms 3", "WASTE of a FIT: the sum of CHANCE times COST over SORTS that make MARKS.", () -> {
            FurrowFair x = fair("s1 0 0;s99 0 0;m0 999 999;");
            due("the most", x.waste(0), 99900);
            due("the rare one alone", x.waste(20), 999);
            due("the frequent one alone", x.waste(4), 98901);
            due("nobody", x.waste(24), 0);
        });
        said("Terms 3", "(what 0) with nothing seen: the mean WORTH of all, without USE and COST, or AWAY if that is more", () -> {
            FurrowFair x = fair("s50 100 0;s50 200 150;m9 5 5;");
            due("154 less 150", x.gain(0, 0, 0, 0), 4);
            due("away is as much", x.gain(0, 1, 0, 0), 4);
            x.change(1, 1, 151);
            due("away is more", x.gain(0, 1, 0, 0), 3);
            due("away in the fit, too", x.gain(20, 1, 0, 0), 0);
            due("all count, though one stays away", x.gain(20, 0, 0, 0), -46);
        });
        said("Terms 3", "(1) with all seen: its own WORTH, or AWAY if that is more", () -> {
            FurrowFair x = fair("s50 100 0;s50 200 200;m9 5 5;");
            due("154 less 100", x.gain(0, 0, 1, 0), 54);
            due("away is as much", x.gain(0, 1, 1, 0), -46);
            x.change(1, 1, 201);
            due("away is more", x.gain(0, 1, 1, 0), -47);
            due("away in the fit, too", x.gain(20, 1, 1, 0), 0);
        });
        said("Terms 3", "as a fraction in least terms (below the line above 0).", () -> {
            FurrowFair x = fair("s25 100 0;s75 200 0;m0 0 0;m0 50 250;");
            due("nought above", x.gain(0, 0, 0, 0), 0);
            due("nought below", x.gain(0, 0, 0, 1), 1);
            due("below 0: 100 - 50 - 175", x.gain(1, 0, 0, 0), -125);
            due("below 0", x.gain(1, 0, 0, 1), 1);
            x.change(1, 0, 201);
            // The mean is 175.75.
            due("100 - 50 - 175.75, above", x.gain(1, 0, 0, 0), -503);
            due("100 - 50 - 175.75, below", x.gain(1, 0, 0, 1), 4);
        });
    }

    static void marksInOneAndBars() {
        said("Terms 3", "IN ONE: a MARK more, of two unlike ones: USES and COSTS added up, held to 99 and 999; its THOUGHT open.", () -> {
            FurrowFair x = fair("s50 1 0;s50 2 0;m49 499 500;m50 500 500;t0 1;t1 0;");
            due("one twice", x.inOne(0, 0), -1);
            due("in one", x.inOne(0, 1), 2);
            due("99 is 99", x.mark(2, -1), 99);
            due("999 is 999", x.mark(2, 0), 999);
            due("1000 is 999", x.mark(2, 1), 999);
            due("open", x.mark(2, -2), -4);
            x.cost(0, -1, 50);
            due("a last one", x.inOne(1, 0), 3);
            due("100 is 99", x.mark(3, -1), 99);
            due("told ones stay told", x.count(2), 2);
            due("full", x.inOne(0, 1), -2);
            x = fair("s50 1 0;s50 2 0;m0 5 7;m0 5 7;");
            due("two of the same costs are unlike", x.inOne(0, 1), 2);
        });
        said("Terms 3", "BARS: MARKS that may not be made (bits, not all): SURE are then FITS as they would be if these were not there.", () -> {
            FurrowFair x = fair(PAIR);
            due("none", x.bars(0), 2);
            due("mark 0", x.bars(1), 1);
            due("mark 1", x.bars(2), 1);
            due("all", x.bars(3), -1);
            due("another one", x.bars(4), -1);
            due("below 0", x.bars(-1), -1);
            due("nothing stays", x.all(0), 2);
            x = fair(FULL);
            int[] counts = {4, 3, 2, 2, 2, 2, 1, 1, 3, 3, 2, 2, 2, 2, 1, -1, -1};
            for (int set = 0; set < counts.length; set++) {
                due("bars(" + set + ") of the full market", x.bars(set), counts[set]);
            }
            due("one mark is all", fair(ONE).bars(1), -1);
            due("one mark, none barred", fair(ONE).bars(0), 1);
        });
        said("Terms 3", "the set (none, too) with which the least WASTE of FITS that are SURE is least", () -> {
            FurrowFair x = fair(PAIR);
            due("none", x.leastBar(0), 0);
            due("nothing is wasted", x.leastBar(1), 0);
            x = fair("s100 50 0;m99 10;m0 9;");
            due("mark 0 barred", x.leastBar(0), 1);
            due("with it 900", x.leastBar(1), 900);
            x.cost(1, 0, 10);
            due("as much as without bars", x.leastBar(0), 0);
            due("1000", x.leastBar(1), 1000);
            x = fair("s100 50 0;m0 9;m0 9;m0 9;m99 10;");
            due("the last mark barred", x.leastBar(0), 8);
            due("one mark alone", fair("s100 50 0;m0 10;").leastBar(1), 1000);
        });
        said("Terms 3", "of several the one with the fewest MARKS, then the least as bits", () -> {
            // With marks 0 and 1 barred nothing is wasted, nor with mark 2: 3 is less as bits, but two marks.
            FurrowFair x = fair("s90 30 10;s10 60 0;m0 0 0;m0 60 10;m20 0 50;");
            due("bars(3)", x.bars(3) > 0 ? 1 : 0, 1);
            due("the fewest marks", x.leastBar(0), 4);
            due("the fewest marks", x.leastBar(1), 0);
            // Nothing is wasted with mark 0 barred, nor with mark 1, nor with both; with none 200.
            x = fair("s80 10 0;s20 30 0;m0 0 0;m10 0 40;m0 30 10;");
            due("the least as bits", x.leastBar(0), 1);
            due("the least as bits", x.leastBar(1), 0);
        });
        said("Terms 3", "sets with which no FIT is SURE don't count.", () -> {
            FurrowFair x = fair("s30 0 0;s70 40 40;m30 0 30;m0 0 20;m0 10 20;t1 1;");
            due("without bars none is sure", x.bars(0), 0);
            due("mark 0 barred", x.leastBar(0), 1);
            due("nothing is wasted", x.leastBar(1), 0);
            x = fair(RESTLESS);
            due("none is sure with any", x.leastBar(0), -4);
            due("none is sure with any", x.leastBar(1), -4);
            due("none is sure", x.bars(0), 0);
        });
    }

    // ---- Terms 4

    static void asking() {
        said("Terms 4", "a LINE tells PAY (0 .. 1999) at each MARK", () -> {
            FurrowFair x = fair(PAIR);
            line(x, 0, 0, 1999);
            due("0 and 1999", x.makes(0, 1), 1);
            line(x, 0, 0, 2000);
            due("2000", x.makes(0, 1), -13);
            line(x, 0, -1, 0);
            due("-1", x.makes(0, 1), -13);
            line(x, 0, 65536 + 7, 0);
            due("65543 keeps its lowest bits", x.makes(0, 0), 0);
            line(x, 0, 1);
            due("too few", x.makes(0, 1), -13);
            line(x, 0, 1, 1, 1);
            due("too many", x.makes(0, 1), -13);
            line(x, 0);
            due("none", x.makes(0, 1), -13);
            x = fair(FULL);
            line(x, 0, 1999, 0, 1999, 1999);
            due("four", x.makes(0, 3), 0);
            line(x, 0, 1999, 0, 1999, 2000);
            due("the fourth", x.makes(0, 3), -13);
            line(x, 0, 5, 5, 5);
            due("three of four", x.makes(0, 3), -13);
        });
        said("Terms 4", "each SORT makes the MARK at which it GETS the most by that, the least of several, or stays away (if it GETS more so).", () -> {
            FurrowFair x = fair(FULL);
            line(x, 0, 10, 21, 32, 43);
            // Sort 0 gets 10 at each; sort 3 gets 10, 12, 14, 16.
            due("the least of several", x.makes(0, 0), 0);
            due("the most", x.makes(0, 3), 3);
            line(x, 0, 10, 21, 32, 44);
            due("the most is the last", x.makes(0, 0), 3);
            line(x, 0, 1, 0, 0, 0);
            due("away is as much", x.makes(0, 0), 0);
            due("away is more", x.makes(0, 1), 4);
            line(x, 0, 4, 13, 22, 31);
            due("all alike, and away", x.makes(0, 3), 0);
            line(x, 0, 3, 12, 21, 30);
            due("away", x.makes(0, 3), 4);
            line(x, 0, 0, 12, 33, 0);
            due("a mark in the middle", x.makes(0, 0), 2);
        });
        said("Terms 4", "is 0 or more; else the first MARK at which it is below 0.", () -> {
            FurrowFair x = fair("s1 40 0;s99 10 0;m0 0 0;m0 0 999;");
            // Both in mark 0: 30 less 99 times (pay less 10).
            line(x, 0, 10, 0);
            due("30 over", x.loses(0), -4);
            line(x, 0, 11, 0);
            due("70 short", x.loses(0), 0);
            line(x, 0, 10, 40);
            due("0 and 0", x.loses(0), -4);
            line(x, 0, 10, 41);
            due("1 short", x.loses(0), 1);
            line(x, 0, 11, 41);
            due("the first of two", x.loses(0), 0);
            x.cost(0, -1, 1);
            due("the use counts", x.loses(0), 1);
            x.change(0, 1, 999);
            x.change(1, 1, 999);
            line(x, 0, 900, 900);
            due("nobody comes", x.loses(0), -4);
            x = fair(FULL);
            line(x, 0, 0, 0, 0, 68);
            due("the last mark", x.loses(0), 3);
            line(x, 0, 0, 0, 0, 0);
            due("all away", x.loses(0), -4);
        });
        said("Terms 4", "It is BROKEN by one offer more, of a MARK and a PAY (0 .. 1999): those SORTS who would GET more by it than they GET by the LINE take it", () -> {
            FurrowFair x = fair("s100 50 0;m9 0;");
            line(x, 0, 57);
            due("58 is more", x.broken(0), 58);
            line(x, 0, 58);
            due("59 earns nothing", x.broken(0), -4);
            line(x, 0, 0);
            due("0 is not more than 0", x.broken(0), 1);
            x.change(0, 1, 57);
            due("more than away", x.broken(0), 58);
            x.change(0, 1, 58);
            due("away is too much", x.broken(0), -4);
            x = fair("s100 999 0;m99 0;");
            line(x, 0, 1096);
            due("the highest", x.broken(0), 1097);
            line(x, 0, 1097);
            due("beyond the highest", x.broken(0), -4);
            line(x, 0, 1999);
            due("beyond all", x.broken(0), -4);
        });
        said("Terms 4", "the first (by MARK, then by PAY) for which the sum of CHANCE times (WORTH and USE less that PAY) over these is above 0.", () -> {
            FurrowFair x = fair("s50 10 0;s50 40 0;m0 0 0;m5 20 10;");
            line(x, 0, 25, 0);
            due("the second mark, from 36 on", x.broken(0), 10036);
            x.cost(1, 1, 19);
            due("45 less 45 is not above 0", x.broken(0), -4);
            x.cost(1, 1, 18);
            due("45 less 44", x.broken(0), 10044);
            x = fair("s50 30 0;s50 40 0;m0 0 0;m5 20 10;");
            line(x, 0, 10, 38);
            // 39 in mark 1 would break it, too: 50 times (35 - 39) and 50 times (45 - 39).
            due("the first mark", x.broken(0), 19);
            x.cost(0, 0, 11);
            due("the second sort alone", x.broken(0), 29);
            x.cost(0, 1, 50);
            due("39 in mark 1", x.broken(0), 10039);
            x = fair("s1 40 0;s99 10 0;m0 0 999;m0 0 999;");
            line(x, 0, 38, 0);
            due("1 is above 0", x.broken(0), 39);
            line(x, 0, 39, 0);
            due("0 is not above 0", x.broken(0), -4);
            x = fair(FULL);
            line(x, 0, 40, 40, 40, 40);
            due("by none of four", x.broken(0), -4);
            x = fair("s100 50 0;m0 10;m0 10;m0 10;m0 0;");
            line(x, 0, 0, 0, 0, 45);
            due("the last mark", x.broken(0), 30046);
            x.cost(0, 0, 0);
            due("the first of two marks", x.broken(0), 46);
        });
    }

    static void edgesAndYears() {
        said("Terms 4", "EDGE: the least COST (0 .. 999) of a MARK for a SORT with which a FIT is SURE (all else as now).", () -> {
            FurrowFair x = fair(PAIR);
            due("100", x.edge(5, 1, 0), 100);
            due("0", x.edge(5, 1, 1), 0);
            due("none: the other sort is not content", x.edge(24, 0, 0), -4);
            due("none: the first sort is not content", x.edge(1, 0, 1), -4);
            x = fair("s100 999 0;m0 0;m99 0;t1 0;");
            x.cost(0, 0, 900);
            due("999", x.edge(0, 1, 0), 999);
            x.cost(0, 0, 901);
            due("1000 would do", x.edge(0, 1, 0), -4);
            due("the cost stays", x.mark(1, 0), 0);
            due("the cost of its own mark", x.edge(0, 0, 0), -4);
            due("of the other's own", x.edge(1, 1, 0), 0);
        });
        said("Terms 4", "A RUN of a FIT: n folk (1 .. 99) from a seed z", () -> {
            FurrowFair x = fair(PAIR);
            due("none", x.run(5, 0, 7, 0), -1);
            due("below 0", x.run(5, LOW, 7, 0), -1);
            due("100", x.run(5, 100, 7, 0), -1);
            due("one", x.run(5, 1, 7, 0) + x.run(5, 1, 7, 1), 1);
            due("ninety-nine", x.run(5, 99, 7, 0) + x.run(5, 99, 7, 1), 99);
            int[] seeds = {LOW, HIGH, -1, 0};
            for (int z : seeds) {
                due("all of seed " + z, x.run(0, 99, z, 0), 99);
            }
        });
        said("Terms 4", "for each z becomes z times 1103515245 plus 12345 (an int), (z without its sign's bit over 65536, cut) modulo 100", () -> {
            FurrowFair x = fair("s64 1 0;s1 1 0;s35 1 0;m0 0 0 0;m0 0 0 0;m0 0 0 0;");
            // 7 becomes -865315532: without the sign's bit 1282168116, over 65536 19564: 64.
            due("64 of seed 7", x.run(55, 1, 7, 1), 1);
            x = fair("s29 1 0;s1 1 0;s70 1 0;m0 0 0 0;m0 0 0 0;m0 0 0 0;");
            // -1 becomes -1103502900; the highest becomes 1043980748: 29 of both.
            due("29 of seed -1", x.run(55, 1, -1, 1), 1);
            due("29 of the highest seed", x.run(55, 1, HIGH, 1), 1);
            long z = 20261119;
            int[] met = new int[3];
            for (int i = 0; i < 99; i++) {
                z = Math.floorMod(z * 1103515245L + 12345L, 1L << 32);
                long drawn = Math.floorMod(z, 1L << 31) / 65536 % 100;
                met[drawn < 29 ? 0 : drawn < 30 ? 1 : 2]++;
            }
            for (int mark = 0; mark < 3; mark++) {
                due("ninety-nine in a row", x.run(55, 99, 20261119, mark), met[mark]);
            }
        });
        said("Terms 4", "is from 0 on below the CHANCE of SORT 0, or of 0 and 1 together, ..: that SORT", () -> {
            FurrowFair x = fair(PAIR);
            int[] seeds = {0, 132, 1154, 58, 74, 27, 1080, 194};
            int[] sorts = {0, 0, 0, 0, 1, 1, 1, 1};
            // 0, 0, 49, 49, 50, 50, 99, 99 are drawn, by turns without the sign's bit and with it.
            for (int i = 0; i < seeds.length; i++) {
                due("seed " + seeds[i], x.run(5, 1, seeds[i], sorts[i]), 1);
            }
            x = fair(FULL);
            // 0, 29 and 99 of the chances 10, 20, 30, 40; 49, 50 too.
            due("0", x.run(430, 1, 0, 0), 1);
            due("29", x.run(430, 1, -1, 1), 1);
            due("49", x.run(430, 1, 58, 2), 1);
            due("64", x.run(430, 1, 7, 3), 1);
            due("99", x.run(430, 1, 194, 3), 1);
        });
        said("Terms 4", "how many made a MARK (4: stayed away).", () -> {
            FurrowFair x = fair(PAIR);
            due("all away", x.run(24, 99, 7, 4), 99);
            due("none away", x.run(5, 99, 7, 4), 0);
            due("sort 1 away", x.run(20, 50, 7, 4), 28);
            due("mark 5", x.run(5, 50, 7, 5), -1);
            due("mark -1", x.run(5, 50, 7, -1), -1);
        });
        said("Terms 4", "by RATE (0 .. 100; 0 of a MARKET that is new)", () -> {
            FurrowFair x = fair(PAIR);
            due("new", x.rate(100), 0);
            due("101", x.rate(101), -1);
            due("-1", x.rate(-1), -1);
            due("100", x.rate(0), 100);
            due("0", x.rate(50), 0);
            read(x, PAIR);
            due("new again", x.rate(0), 0);
        });
        said("Terms 4", "in YEAR y (0, 1, ..) of RATE times y, 100 at most, of a hundred folk one knows their SORT", () -> {
            FurrowFair x = fair(PAIR);
            x.rate(50);
            // Fit 0 pays 150: known 0, 50, 100, 100.
            due("year 0", x.years(0, 0, 1, 0), 150);
            due("year 1", x.years(0, 0, 2, 0), 275);
            due("year 2: all", x.years(0, 0, 3, 0), 375);
            due("year 3: no more than all", x.years(0, 0, 4, 0), 475);
            x.rate(100);
            due("all in year 1", x.years(0, 0, 2, 0), 250);
            due("no more in year 11", x.years(0, 0, 12, 0), 1250);
            x.rate(99);
            due("99 in year 1", x.years(0, 0, 2, 0), 501);
            due("99 in year 1", x.years(0, 0, 2, 1), 2);
            x.rate(0);
            due("none ever", x.years(0, 0, 12, 0), 1800);
        });
        said("Terms 4", "OVER n YEARS (1 .. 12)", () -> {
            FurrowFair x = fair(PAIR);
            due("1", x.years(5, 1, 1, 0), 120);
            due("12", x.years(5, 1, 12, 0), 2320);
            due("0", x.years(5, 1, 0, 0), NOF);
            due("13", x.years(5, 1, 13, 0), NOF);
            due("0", x.ratherOver(5, 0), -1);
            due("13", x.ratherOver(5, 13), -1);
            due("12", x.ratherOver(0, 12), -4);
        });
        said("Terms 4", "and what is known times its own WORTH and the USE), by 100, less its COST (once); one that stays away n times AWAY.", () -> {
            FurrowFair x = fair("s50 100 7;s50 200 0;m9 5 5;");
            x.rate(100);
            due("159 and 109, less 5", x.years(0, 0, 2, 0), 263);
            due("159 and 209, less 5", x.years(0, 1, 2, 0), 363);
            due("twelve times away", x.years(4, 0, 12, 0), 84);
            due("twelve times away", x.years(4, 0, 12, 1), 1);
            due("once away", x.years(4, 0, 1, 0), 7);
            due("0 away", x.years(20, 1, 12, 0), 0);
            x = fair("s100 0 0;m0 999;");
            due("below 0, once", x.years(0, 0, 12, 0), -999);
        });
        said("Terms 4", "RATHER OVER n YEARS: as RATHER by that (PAY as in the FIT).", () -> {
            FurrowFair x = fair(PAIR);
            due("over 1 year as at once", x.ratherOver(5, 1), -4);
            due("over 2 years mark 1 pays sort 0", x.ratherOver(5, 2), 1);
            x.cost(1, 0, 200);
            due("as much is not more", x.ratherOver(5, 2), -4);
            due("over 3 years", x.ratherOver(5, 3), 1);
            x.change(0, 1, 101);
            due("away behind the marks", x.ratherOver(5, 3), 1);
            due("away", x.ratherOver(5, 1), 4);
            due("away over 2 years", x.ratherOver(5, 2), 4);
            x.rate(100);
            due("from year 1 on all is seen", x.ratherOver(5, 12), 4);
        });
    }

    static void taxesMovesAndImages() {
        said("Terms 4", "all who make it pay so much more (0, 10, .. 90), which comes back to all alike and is no WASTE", () -> {
            FurrowFair x = fair("s100 50 0;m5 3;m0 0;");
            due("10", x.bestTax(0, 0), 10);
            due("nothing is wasted", x.bestTax(0, 1), 0);
            x.cost(0, -1, 93);
            due("90", x.bestTax(0, 0), 90);
            x.cost(0, -1, 94);
            due("100 would do", x.bestTax(0, 0), 0);
            due("what it costs is wasted", x.bestTax(0, 1), 300);
            x = fair("s100 50 0;m99 0;m0 0;");
            due("a tax is no waste", x.bestTax(0, 1), 0);
            due("nothing is better", x.bestTax(0, 0), 0);
        });
        said("Terms 4", "with which the least WASTE of FITS that are SURE (with the TAX) is least; of several the least TAX", () -> {
            FurrowFair x = fair("s100 50 0;m5 3;m0 0;");
            due("of 10, 20, .. 90", x.bestTax(0, 0), 10);
            x.cost(0, -1, 13);
            due("10 leaves as much at both marks", x.bestTax(0, 0), 10);
            x.cost(0, -1, 14);
            due("of 20, .. 90", x.bestTax(0, 0), 20);
            due("of all", x.bestTax(1, 0), 0);
            due("with all the same waste", x.bestTax(1, 1), 300);
        });
        said("Terms 4", "those with which none is SURE don't count.", () -> {
            FurrowFair x = fair(RESTLESS);
            due("sure from 40 on", x.bestTax(0, 0), 40);
            due("sure from 40 on", x.bestTax(0, 1), 0);
            x = fair("s50 0 500;s50 999 500;m0 0 0;t0 1;");
            due("none with any", x.bestTax(0, 0), -4);
            due("none with any", x.bestTax(0, 1), -4);
            due("nothing stays", x.all(0), 0);
        });
        said("Terms 4", "MOVED: the least n (1 .. 99) such that, n hundredths of CHANCE going from one SORT to another one (1 must be left at least), "
                + "a FIT that was SURE isn't, or one that wasn't is; -4 none.", () -> {
            FurrowFair x = fair(PAIR);
            x.think(1, 1);
            x.cost(1, 1, 49);
            // In fit 0 both get 150; at mark 1 sort 1 would get 151.
            due("not sure", x.rather(0), 11);
            due("1", x.moved(0, 0, 1), 1);
            due("none", x.moved(0, 1, 0), -4);
            x.cost(1, 1, 50);
            due("sure", x.rather(0), -4);
            due("1", x.moved(0, 1, 0), 1);
            x.cost(1, 1, 1);
            due("49: one is left", x.moved(0, 0, 1), 49);
            x.cost(1, 1, 0);
            due("none would be left", x.moved(0, 0, 1), -4);
            x = fair("s99 100 0;s1 200 0;m0 0 0;m0 150 1;t1 1;");
            due("98 of 99", x.moved(0, 0, 1), 98);
            due("1 cannot go", x.moved(0, 1, 0), -4);
            due("the chances stay", x.sort(0, 0), 99);
        });
        said("Terms 4", "LOSERS of a FIT: SORTS (bits) whose GAIN beside what 0, 1 is below 0.", () -> {
            FurrowFair x = fair(PAIR);
            due("0 is not below 0", x.losers(0, 0), 0);
            due("the second", x.losers(5, 1), 2);
            due("both", x.losers(5, 0), 3);
            x = fair(FULL);
            due("all four", x.losers(430, 0), 15);
            due("all but the first", x.losers(430, 1), 14);
            x = fair("s99 1 0;s1 0 0;m0 0 0;");
            due("a hundredth short of its own", x.losers(0, 1), 1);
            // 98 beside 98.01.
            due("a hundredth short of the mean", fair("s1 0 0;s99 99 0;m0 0 0;m98 0 0;").losers(1, 0), 1);
        });
        said("Terms 4", "STANDING: how many ways there are by LOTS: FITS, a SORT, a MARK b.", () -> {
            FurrowFair x = fair(PAIR);
            due("one", x.standing(), 1);
            x.cost(1, 1, 50);
            due("none", x.standing(), 0);
            x.cost(1, 1, 51);
            due("one again", x.standing(), 1);
            due("all ways of the full market", fair(FULL).standing(), 265);
            due("one sort and one mark", fair(ONE).standing(), 0);
            due("both ways round", fair("s50 100 0;s50 200 0;m0 150 80;m0 0 0;").standing(), 1);
            due("three sorts, sure or not", fair("s25 100 0;s25 200 0;s50 150 0;m0 0 0 0;m0 150 80 0;").standing(), waysOfThree());
        });
        said("Terms 4", "THE IMAGE: THE MARKET (as it is, RATE too); RESTORED it is so again.", () -> {
            FurrowFair x = fair(FULL);
            x.rate(100);
            x.think(3, 3);
            x.keep(7, 0, 0, 0);
            String was = state(x);
            x.image();
            x.rate(1);
            x.think(3, -1);
            x.think(0, 0);
            x.change(3, 0, 0);
            x.change(0, 1, 999);
            x.cost(3, 3, 999);
            x.cost(0, -1, 99);
            due("restored", x.restore(), 4);
            same("restored", state(x), was);
        });
    }

    /** By a simple count of lots that are told. */
    static int waysOfThree() {
        FurrowFair x = fair("s25 100 0;s25 200 0;s50 150 0;m0 0 0 0;m0 150 80 0;");
        int ways = 0;
        int[] digit = {0, 1, 4};
        for (int a : digit) {
            for (int b : digit) {
                for (int c : digit) {
                    for (int i = 0; i < 6; i++) {
                        ways += x.lots(a + 5 * b + 25 * c, i / 2, i % 2, 0) == NOF ? 0 : 1;
                    }
                }
            }
        }
        return ways;
    }

    static void refusals() {
        said("Terms 4", "Answers of several refusals are the first one here: -1 no such thing, a number out of range, or not as told; -2 no room; "
                + "-3 it can't be as things stand; -4 none; -11 to -15", () -> {
            FurrowFair x = fair(FULL);
            x.keep(0, 1, 0, 430);
            x.row(1, 0, 3);
            x.row(2, 1, 3);
            due("-1 ahead of -2", x.inOne(0, 0), -1);
            due("-1 ahead of -2", x.inOne(0, 4), -1);
            due("-2 alone", x.inOne(0, 1), -2);
            due("-1 ahead of -3: no mark", x.barred(1, 4, 0), -1);
            due("-1 ahead of -3: no sort", x.barred(1, 0, 4), -1);
            due("-3 alone", x.barred(1, 0, 0), -3);
            due("-1 ahead of -11", x.makes(3, 4), -1);
            due("-1 ahead of -11", x.copy(3, 0, 8, 0, 1), -1);
            due("-1 ahead of -12", x.makes(0, 4), -1);
            due("-1 ahead of -13", x.makes(2, 4), -1);
            due("-1 ahead of -14", x.row(8, 0, -1), -1);
            due("-1 ahead of -14", x.row(0, 3, -1), -1);
            due("-11 ahead of -12", x.copy(0, 0, 3, 0, 1), -11);
            due("-11 ahead of -12", x.copy(3, 0, 0, 0, 1), -11);
            due("-11 ahead of -13", x.copy(3, 9, 1, 9, 1), -11);
            due("-12 ahead of -13", x.copy(1, 9, 2, 9, 1), -12);
            due("-12 ahead of -13", x.put(0, 999, 0), -12);
            due("-12 ahead of -13", x.makes(1, 0), -12);
            due("-12 ahead of -15", x.toss(1), -12);
        });
        said("Terms 4", "of fractions -4611686018427387904 for all", () -> {
            FurrowFair x = new FurrowFair();
            due("pay without a market", x.pay(0, 0, 0), NOF);
            due("gets without a market", x.gets(0, 0, 0), NOF);
            due("lots without a market", x.lots(0, 1, 1, 0), NOF);
            due("gain without a market", x.gain(0, 0, 0, 0), NOF);
            due("years without a market", x.years(0, 0, 1, 0), NOF);
            read(x, PAIR);
            int[] fits = {-1, 2, 25, LOW, HIGH};
            for (int fit : fits) {
                due("pay of fit " + fit, x.pay(fit, 0, 0), NOF);
                due("gets of fit " + fit, x.gets(fit, 0, 0), NOF);
                due("lots of fit " + fit, x.lots(fit, 1, 1, 0), NOF);
                due("gain of fit " + fit, x.gain(fit, 0, 0, 0), NOF);
                due("years of fit " + fit, x.years(fit, 0, 1, 0), NOF);
            }
            int[] others = {-1, 2, LOW, HIGH};
            for (int n : others) {
                due("pay at mark " + n, x.pay(0, n, 0), NOF);
                due("pay, part " + n, x.pay(0, 0, n), NOF);
                due("gets of sort " + n, x.gets(0, n, 0), NOF);
                due("gets, part " + n, x.gets(0, 0, n), NOF);
                due("lots of sort " + n, x.lots(0, n, 1, 0), NOF);
                due("lots, mark " + n, x.lots(0, 1, n, 0), NOF);
                due("lots, part " + n, x.lots(0, 1, 1, n), NOF);
                due("gain of sort " + n, x.gain(0, n, 0, 0), NOF);
                due("gain, what " + n, x.gain(0, 0, n, 0), NOF);
                due("gain, part " + n, x.gain(0, 0, 0, n), NOF);
                due("years of sort " + n, x.years(0, n, 1, 0), NOF);
                due("years, part " + n, x.years(0, 0, 1, n), NOF);
            }
        });
        said("Terms 4", "A refused call changes nothing.", () -> {
            FurrowFair x = fair(PAIR);
            x.rate(30);
            x.think(1, 1);
            x.keep(7, 0, 0, 0);
            x.keep(0, 1, 4, 5);
            x.row(1, 1, 2);
            x.put(1, 1, 77);
            x.row(2, 2, 2);
            String was = state(x);
            long[] got = {
                x.market(-1), x.market(6), x.market(1), x.change(2, 0, 5), x.change(0, 2, 5), x.change(0, 0, 1000), x.change(0, 1, -1),
                x.cost(2, 0, 5), x.cost(0, 2, 5), x.cost(0, -2, 5), x.cost(0, 0, 1000), x.cost(0, -1, 100), x.cost(0, -1, -1), x.think(2, 0),
                x.think(0, 2), x.think(0, -2), x.inOne(0, 0), x.inOne(0, 2), x.inOne(-1, 0), x.rate(101), x.rate(-1), x.restore(),
                x.keep(8, 0, 0, 0), x.keep(0, 2, 0, 0), x.keep(0, 1, 6, 0), x.keep(0, 1, 0, 2), x.row(8, 0, 1), x.row(0, 3, 1), x.row(0, 0, 121),
                x.row(0, 0, -1), x.put(1, 2, 5), x.put(1, -1, 5), x.put(0, 0, 5), x.put(6, 0, 5), x.copy(1, 0, 2, 0, 1), x.copy(1, 0, 1, 1, 2),
                x.copy(1, 1, 1, 0, -1), x.copy(1, 0, 6, 0, 1), element(x, 1, 2),
            };
            for (int i = 0; i < got.length; i++) {
                due("refusal " + i, got[i] < 0 ? 1 : 0, 1);
            }
            same("refused calls", state(x), was);
            due("fit 5 is sure as ever", x.rather(5), -4);
        });
    }

    public static void main(String[] args) {
        sortsAndMarks();
        fits();
        shelves();
        form();
        faults();
        secondThoughts();
        lots();
        apartAndGain();
        marksInOneAndBars();
        asking();
        edgesAndYears();
        taxesMovesAndImages();
        refusals();
        end();
    }
}
