import java.util.Arrays;

/** A market in which one spends in order to be believed; README.md tells how it is used. */
public final class FurrowFair {
    private static final int NO_SUCH = -1;
    private static final int NO_ROOM = -2;
    private static final int CANNOT_BE = -3;
    private static final int NONE = -4;
    private static final int NOTHING_HELD = -11;
    private static final int OTHER_KIND = -12;
    private static final int NO_PLACE = -13;
    private static final int SIZE_BELOW = -14;
    private static final int NO_FAILURE = -15;
    private static final long NO_FRACTION = -4611686018427387904L;

    private static final int MOST_SORTS = 4;
    private static final int MOST_MARKS = 4;
    private static final int AWAY = 4;
    private static final int DIGITS = 5;
    private static final int MOST_MONEY = 999;
    private static final int MOST_USE = 99;
    private static final int MOST_PAY = 1999;
    private static final int ALL_CHANCES = 100;
    private static final int OPEN = -1;

    private static final int SHELVES = 8;
    private static final int MOST_ELEMENTS = 120;
    private static final int BYTES = 0;
    private static final int SHORTS = 1;
    private static final int INTS = 2;

    private final Market fair = new Market();
    private final Market kept = new Market();
    private final Reader reader = new Reader();
    private final Scales scales = new Scales(fair);
    private final Line line = new Line(fair);
    private final Shelf[] shelves = new Shelf[SHELVES];
    private boolean hasMarket;
    private boolean hasImage;

    public FurrowFair() {
        for (int d = 0; d < SHELVES; d++) {
            shelves[d] = new Shelf();
        }
    }

    // ---- markets

    public int market(int d) {
        if (!isShelf(d)) {
            return NO_SUCH;
        }
        Shelf shelf = shelves[d];
        if (shelf.isBare()) {
            return NOTHING_HELD;
        }
        if (!shelf.holdsRowOf(BYTES)) {
            return OTHER_KIND;
        }
        int answer = reader.readFrom(shelf);
        if (answer > 0) {
            fair.takeFrom(reader.found);
            hasMarket = true;
        }
        return answer;
    }

    public int sort(int sort, int what) {
        if (!hasMarket) {
            return CANNOT_BE;
        }
        if (!fair.hasSort(sort)) {
            return NO_SUCH;
        }
        switch (what) {
            case 0:
                return fair.chance[sort];
            case 1:
                return fair.worth[sort];
            case 2:
                return fair.away[sort];
            default:
                return NO_SUCH;
        }
    }

    public int mark(int mark, int sort) {
        if (!hasMarket) {
            return CANNOT_BE;
        }
        if (!fair.hasMark(mark)) {
            return NO_SUCH;
        }
        if (sort == -2) {
            return fair.toldAt(mark);
        }
        if (sort == -1) {
            return fair.use[mark];
        }
        return fair.hasSort(sort) ? fair.cost[mark][sort] : NO_SUCH;
    }

    public int change(int sort, int what, int n) {
        if (!hasMarket) {
            return CANNOT_BE;
        }
        if (!fair.hasSort(sort) || !isBit(what) || n < 0 || n > MOST_MONEY) {
            return NO_SUCH;
        }
        int was = what == 0 ? fair.worth[sort] : fair.away[sort];
        if (what == 0) {
            fair.worth[sort] = n;
        } else {
            fair.away[sort] = n;
        }
        return was;
    }

    public int cost(int mark, int sort, int n) {
        if (!hasMarket) {
            return CANNOT_BE;
        }
        if (!fair.hasMark(mark) || n < 0) {
            return NO_SUCH;
        }
        if (sort == -1) {
            return changeUse(mark, n);
        }
        if (!fair.hasSort(sort) || n > MOST_MONEY) {
            return NO_SUCH;
        }
        int was = fair.cost[mark][sort];
        fair.cost[mark][sort] = n;
        return was;
    }

    private int changeUse(int mark, int n) {
        if (n > MOST_USE) {
            return NO_SUCH;
        }
        int was = fair.use[mark];
        fair.use[mark] = n;
        return was;
    }

    public int think(int mark, int sort) {
        if (!hasMarket) {
            return CANNOT_BE;
        }
        if (!fair.hasMark(mark) || (sort != OPEN && !fair.hasSort(sort))) {
            return NO_SUCH;
        }
        int was = fair.toldAt(mark);
        fair.told[mark] = sort;
        return was;
    }

    // ---- fits

    public long pay(int fit, int mark, int part) {
        if (!hasMarket || !fair.hasFit(fit) || !fair.hasMark(mark) || !isBit(part)) {
            return NO_FRACTION;
        }
        scales.weigh(fit);
        return inLeastTerms(scales.payTop[mark], scales.payUnder[mark], part);
    }

    public long gets(int fit, int sort, int part) {
        if (!hasMarket || !fair.hasFit(fit) || !fair.hasSort(sort) || !isBit(part)) {
            return NO_FRACTION;
        }
        scales.weigh(fit);
        return inLeastTerms(scales.ownTop(sort), scales.ownUnder(sort), part);
    }

    public int rather(int fit) {
        int fault = fitFault(fit);
        if (fault != 0) {
            return fault;
        }
        scales.weigh(fit);
        return scales.firstRather();
    }

    public int next(int after) {
        if (!hasMarket) {
            return CANNOT_BE;
        }
        if (after < -1) {
            return NO_SUCH;
        }
        int fits = fair.fitNumbers();
        if (after >= fits) {
            return NONE;
        }
        for (int fit = after + 1; fit < fits; fit++) {
            if (isSureFit(fit)) {
                return fit;
            }
        }
        return NONE;
    }

    public int all(int what) {
        if (!hasMarket) {
            return CANNOT_BE;
        }
        if (what < 0 || what > 2) {
            return NO_SUCH;
        }
        scales.allOpen = what == 1;
        int fits = fair.fitNumbers();
        int counted = 0;
        for (int fit = 0; fit < fits; fit++) {
            if (isSureFit(fit) && (what != 2 || scales.fallsBy() == NONE)) {
                counted++;
            }
        }
        scales.allOpen = false;
        return counted;
    }

    public int falls(int fit) {
        int fault = sureFitFault(fit);
        return fault != 0 ? fault : scales.fallsBy();
    }

    public int barred(int fit, int mark, int sort) {
        if (!hasMarket) {
            return CANNOT_BE;
        }
        if (!fair.hasMark(mark) || !fair.hasSort(sort)) {
            return NO_SUCH;
        }
        int fault = sureFitFault(fit);
        if (fault != 0) {
            return fault;
        }
        if (scales.isMade(mark)) {
            return CANNOT_BE;
        }
        return scales.isBarred(mark, sort) ? 1 : 0;
    }

    public long lots(int fit, int sort, int b, int part) {
        if (!hasMarket || !fair.hasFit(fit) || !fair.hasSort(sort) || !fair.hasMark(b) || !isBit(part)) {
            return NO_FRACTION;
        }
        scales.lay(fit);
        if (!scales.drawsLots(sort, b)) {
            return NO_FRACTION;
        }
        return inLeastTerms(scales.lotsTop, scales.lotsUnder, part);
    }

    public int apart() {
        if (!hasMarket) {
            return CANNOT_BE;
        }
        int fits = fair.fitNumbers();
        int best = NONE;
        int least = 0;
        for (int fit = 0; fit < fits; fit++) {
            if (fair.hasFit(fit) && scales.tellsAllApart(fit) && isSureFit(fit)) {
                int wasted = scales.wasted();
                if (best == NONE || wasted < least) {
                    best = fit;
                    least = wasted;
                }
            }
        }
        return best;
    }

    public int justNot(int fit) {
        int fault = sureFitFault(fit);
        return fault != 0 ? fault : scales.leastLoss();
    }

    public int waste(int fit) {
        int fault = fitFault(fit);
        if (fault != 0) {
            return fault;
        }
        scales.lay(fit);
        return scales.wasted();
    }

    public long gain(int fit, int sort, int what, int part) {
        if (!hasMarket || !fair.hasFit(fit) || !fair.hasSort(sort) || !isBit(what) || !isBit(part)) {
            return NO_FRACTION;
        }
        scales.weigh(fit);
        return inLeastTerms(scales.gainTop(sort, what), scales.gainUnder(sort), part);
    }

    // ---- marks

    public int inOne(int a, int b) {
        if (!hasMarket) {
            return CANNOT_BE;
        }
        if (!fair.hasMark(a) || !fair.hasMark(b) || a == b) {
            return NO_SUCH;
        }
        return fair.join(a, b);
    }

    public int bars(int set) {
        if (!hasMarket) {
            return CANNOT_BE;
        }
        if (set < 0 || set >= fair.allMarks()) {
            return NO_SUCH;
        }
        scales.bars = set;
        int fits = fair.fitNumbers();
        int counted = 0;
        for (int fit = 0; fit < fits; fit++) {
            if (isSureFit(fit)) {
                counted++;
            }
        }
        scales.bars = 0;
        return counted;
    }

    public int leastBar(int what) {
        if (!hasMarket) {
            return CANNOT_BE;
        }
        if (!isBit(what)) {
            return NO_SUCH;
        }
        int best = NONE;
        int least = NONE;
        for (int set = 0; set < fair.allMarks(); set++) {
            scales.bars = set;
            int wasted = leastWaste();
            boolean fewer = wasted == least && Integer.bitCount(set) < Integer.bitCount(best);
            if (wasted != NONE && (least == NONE || wasted < least || fewer)) {
                best = set;
                least = wasted;
            }
        }
        scales.bars = 0;
        return what == 0 ? best : least;
    }

    // ---- asking first

    public int makes(int d, int sort) {
        if (!hasMarket) {
            return CANNOT_BE;
        }
        if (!fair.hasSort(sort)) {
            return NO_SUCH;
        }
        int fault = lineFault(d);
        return fault != 0 ? fault : line.place[sort];
    }

    public int loses(int d) {
        int fault = lineFault(d);
        return fault != 0 ? fault : line.firstLoss();
    }

    public int broken(int d) {
        int fault = lineFault(d);
        return fault != 0 ? fault : line.firstOffer();
    }

    // ---- edges, runs

    public int edge(int fit, int mark, int sort) {
        if (!hasMarket) {
            return CANNOT_BE;
        }
        if (!fair.hasFit(fit) || !fair.hasMark(mark) || !fair.hasSort(sort)) {
            return NO_SUCH;
        }
        scales.weigh(fit);
        if (!scales.isContentBut(sort)) {
            return NONE;
        }
        // PAY doesn't hang on COST, and of the SORTS only this one heeds its own.
        int was = fair.cost[mark][sort];
        int found = NONE;
        for (int tried = 0; tried <= MOST_MONEY && found == NONE; tried++) {
            fair.cost[mark][sort] = tried;
            if (scales.firstLure(sort) == NONE) {
                found = tried;
            }
        }
        fair.cost[mark][sort] = was;
        return found;
    }

    public int run(int fit, int n, int z, int mark) {
        if (!hasMarket) {
            return CANNOT_BE;
        }
        if (!fair.hasFit(fit) || n < 1 || n > 99 || mark < 0 || mark > AWAY) {
            return NO_SUCH;
        }
        scales.lay(fit);
        int seed = z;
        int counted = 0;
        for (int i = 0; i < n; i++) {
            seed = seed * 1103515245 + 12345;
            int drawn = (seed & 0x7fffffff) / 65536 % ALL_CHANCES;
            if (scales.place[fair.sortDrawn(drawn)] == mark) {
                counted++;
            }
        }
        return counted;
    }

    public int rate(int n) {
        if (!hasMarket) {
            return CANNOT_BE;
        }
        if (n < 0 || n > 100) {
            return NO_SUCH;
        }
        int was = fair.rate;
        fair.rate = n;
        return was;
    }

    public long years(int fit, int sort, int n, int part) {
        if (!hasMarket || !fair.hasFit(fit) || !fair.hasSort(sort) || !isSpan(n) || !isBit(part)) {
            return NO_FRACTION;
        }
        scales.weigh(fit);
        scales.lookOver(n);
        long answer = inLeastTerms(scales.ownTop(sort), scales.ownUnder(sort), part);
        scales.lookAtOnce();
        return answer;
    }

    public int ratherOver(int fit, int n) {
        int fault = fitFault(fit);
        if (fault != 0) {
            return fault;
        }
        if (!isSpan(n)) {
            return NO_SUCH;
        }
        scales.weigh(fit);
        scales.lookOver(n);
        int answer = scales.firstRather();
        scales.lookAtOnce();
        return answer;
    }

    public int bestTax(int mark, int what) {
        if (!hasMarket) {
            return CANNOT_BE;
        }
        if (!fair.hasMark(mark) || !isBit(what)) {
            return NO_SUCH;
        }
        int best = NONE;
        int least = NONE;
        scales.taxed = mark;
        for (int tax = 0; tax <= 90; tax += 10) {
            scales.tax = tax;
            int wasted = leastWaste();
            if (wasted != NONE && (least == NONE || wasted < least)) {
                best = tax;
                least = wasted;
            }
        }
        scales.tax = 0;
        return what == 0 ? best : least;
    }

    public int moved(int fit, int from, int to) {
        if (!hasMarket) {
            return CANNOT_BE;
        }
        if (!fair.hasFit(fit) || !fair.hasSort(from) || !fair.hasSort(to) || from == to) {
            return NO_SUCH;
        }
        boolean wasSure = isSureFit(fit);
        int most = fair.chance[from] - 1;
        int moved = 0;
        int found = NONE;
        while (moved < most && found == NONE) {
            moved++;
            fair.moveChance(from, to, 1);
            if (isSureFit(fit) != wasSure) {
                found = moved;
            }
        }
        fair.moveChance(to, from, moved);
        return found;
    }

    public int losers(int fit, int what) {
        int fault = fitFault(fit);
        if (fault != 0) {
            return fault;
        }
        if (!isBit(what)) {
            return NO_SUCH;
        }
        scales.weigh(fit);
        int set = 0;
        for (int sort = 0; sort < fair.sorts; sort++) {
            if (scales.gainTop(sort, what) < 0) {
                set |= 1 << sort;
            }
        }
        return set;
    }

    public int standing() {
        if (!hasMarket) {
            return CANNOT_BE;
        }
        int fits = fair.fitNumbers();
        int counted = 0;
        for (int fit = 0; fit < fits; fit++) {
            if (fair.hasFit(fit)) {
                scales.lay(fit);
                counted += scales.waysByLots();
            }
        }
        return counted;
    }

    // ---- the image, what is told

    public int image() {
        if (!hasMarket) {
            return CANNOT_BE;
        }
        kept.takeFrom(fair);
        hasImage = true;
        return kept.sorts;
    }

    public int restore() {
        if (!hasImage) {
            return CANNOT_BE;
        }
        fair.takeFrom(kept);
        return fair.sorts;
    }

    public int count(int what) {
        switch (what) {
            case 0:
                return fair.sorts;
            case 1:
                return fair.marks;
            case 2:
                return fair.toldThoughts();
            case 3:
                return fair.allWorth();
            case 4:
                return fair.allCosts();
            default:
                return NO_SUCH;
        }
    }

    // ---- shelves

    public int keep(int d, int what, int k, int fit) {
        if (!isShelf(d) || !isBit(what)) {
            return NO_SUCH;
        }
        if (what == 0) {
            shelves[d].clear();
            return 0;
        }
        if (!hasMarket) {
            return CANNOT_BE;
        }
        if (k < 0 || k > 5 || !fair.hasFit(fit)) {
            return NO_SUCH;
        }
        shelves[d].holdFit(fitOfKind(k, fit, fair.sorts));
        return 0;
    }

    public int row(int d, int sort, int n) {
        if (!isShelf(d) || sort < BYTES || sort > INTS || n > MOST_ELEMENTS) {
            return NO_SUCH;
        }
        if (n < 0) {
            return SIZE_BELOW;
        }
        shelves[d].holdRow(sort, n);
        return 0;
    }

    public int put(int d, int i, int v) {
        if (!isShelf(d)) {
            return NO_SUCH;
        }
        Shelf shelf = shelves[d];
        if (shelf.isBare()) {
            return NOTHING_HELD;
        }
        if (!shelf.holdsRow()) {
            return OTHER_KIND;
        }
        if (!shelf.hasPlaces(i, 1)) {
            return NO_PLACE;
        }
        shelf.setValue(i, v);
        return 0;
    }

    public long element(int d, int i) throws IllegalArgumentException, IllegalStateException {
        if (!isShelf(d)) {
            throw new IllegalArgumentException("no such shelf");
        }
        Shelf shelf = shelves[d];
        if (!shelf.holdsRow() || !shelf.hasPlaces(i, 1)) {
            throw new IllegalStateException("no row, or no such place");
        }
        return shelf.values[i];
    }

    public int copy(int d, int i, int e, int j, int n) {
        if (!isShelf(d) || !isShelf(e)) {
            return NO_SUCH;
        }
        Shelf from = shelves[d];
        Shelf to = shelves[e];
        if (from.isBare() || to.isBare()) {
            return NOTHING_HELD;
        }
        if (!from.holdsRow() || !to.holdsRowOf(from.rowSort)) {
            return OTHER_KIND;
        }
        if (!from.hasPlaces(i, n) || !to.hasPlaces(j, n)) {
            return NO_PLACE;
        }
        System.arraycopy(from.values, i, to.values, j, n);
        return n;
    }

    public int breadth(int d) {
        int fault = heldFitFault(d);
        return fault != 0 ? fault : shelves[d].fit.broad();
    }

    public int toss(int d) {
        int fault = heldFitFault(d);
        return fault != 0 ? fault : shelves[d].fit.caught();
    }

    // ---- what the calls share

    private static boolean isShelf(int d) {
        return d >= 0 && d < SHELVES;
    }

    private static boolean isBit(int n) {
        return n == 0 || n == 1;
    }

    private static boolean isSpan(int years) {
        return years >= 1 && years <= 12;
    }

    private int fitFault(int fit) {
        if (!hasMarket) {
            return CANNOT_BE;
        }
        return fair.hasFit(fit) ? 0 : NO_SUCH;
    }

    /** 0: the FIT is SURE, and lies on the scales. */
    private int sureFitFault(int fit) {
        int fault = fitFault(fit);
        if (fault != 0) {
            return fault;
        }
        return isSureFit(fit) ? 0 : CANNOT_BE;
    }

    private boolean isSureFit(int fit) {
        if (!fair.hasFit(fit)) {
            return false;
        }
        scales.weigh(fit);
        return scales.isSure();
    }

    /** The least WASTE of FITS that are SURE with the BARS and the TAX that lie on the scales. */
    private int leastWaste() {
        int fits = fair.fitNumbers();
        int least = NONE;
        for (int fit = 0; fit < fits; fit++) {
            if (isSureFit(fit)) {
                int wasted = scales.wasted();
                least = least == NONE || wasted < least ? wasted : least;
            }
        }
        return least;
    }

    private int lineFault(int d) {
        if (!hasMarket) {
            return CANNOT_BE;
        }
        if (!isShelf(d)) {
            return NO_SUCH;
        }
        Shelf shelf = shelves[d];
        if (shelf.isBare()) {
            return NOTHING_HELD;
        }
        if (!shelf.holdsRowOf(SHORTS)) {
            return OTHER_KIND;
        }
        return line.readFrom(shelf) ? 0 : NO_PLACE;
    }

    private int heldFitFault(int d) {
        if (!isShelf(d)) {
            return NO_SUCH;
        }
        if (shelves[d].isBare()) {
            return NOTHING_HELD;
        }
        return shelves[d].fit == null ? OTHER_KIND : 0;
    }

    private static Fit fitOfKind(int kind, int number, int sorts) {
        switch (kind) {
            case 1:
                return new Apart(number, sorts);
            case 2:
                return new Together(number, sorts);
            case 3:
                return new Partly(number, sorts);
            case 4:
                return new Told(number, sorts);
            case 5:
                return new Asked(number, sorts);
            default:
                return new Fit(number, sorts);
        }
    }

    private static long inLeastTerms(long top, long under, int part) {
        long divisor = commonDivisor(Math.abs(top), Math.abs(under));
        if (divisor == 0) {
            return NO_FRACTION;
        }
        return (part == 0 ? top : under) / divisor;
    }

    private static long commonDivisor(long a, long b) {
        long larger = a;
        long smaller = b;
        // Two longs need fewer than a hundred steps.
        for (int step = 0; step < 100 && smaller != 0; step++) {
            long rest = larger % smaller;
            larger = smaller;
            smaller = rest;
        }
        return larger;
    }

    /** SORTS and MARKS as they are. */
    static final class Market {
        int sorts;
        int marks;
        int rate;
        final int[] chance = new int[MOST_SORTS];
        final int[] worth = new int[MOST_SORTS];
        final int[] away = new int[MOST_SORTS];
        final int[] use = new int[MOST_MARKS];
        final int[] told = new int[MOST_MARKS];
        final int[][] cost = new int[MOST_MARKS][MOST_SORTS];

        void clear() {
            sorts = 0;
            marks = 0;
            rate = 0;
        }

        void takeFrom(Market other) {
            sorts = other.sorts;
            marks = other.marks;
            rate = other.rate;
            System.arraycopy(other.chance, 0, chance, 0, MOST_SORTS);
            System.arraycopy(other.worth, 0, worth, 0, MOST_SORTS);
            System.arraycopy(other.away, 0, away, 0, MOST_SORTS);
            System.arraycopy(other.use, 0, use, 0, MOST_MARKS);
            System.arraycopy(other.told, 0, told, 0, MOST_MARKS);
            for (int mark = 0; mark < MOST_MARKS; mark++) {
                System.arraycopy(other.cost[mark], 0, cost[mark], 0, MOST_SORTS);
            }
        }

        boolean hasSort(int sort) {
            return sort >= 0 && sort < sorts;
        }

        boolean hasMark(int mark) {
            return mark >= 0 && mark < marks;
        }

        /** All FITS have numbers below this. */
        int fitNumbers() {
            int numbers = 1;
            for (int sort = 0; sort < sorts; sort++) {
                numbers *= DIGITS;
            }
            return numbers;
        }

        boolean hasFit(int fit) {
            if (fit < 0) {
                return false;
            }
            int left = fit;
            for (int sort = 0; sort < sorts; sort++) {
                int place = left % DIGITS;
                if (place != AWAY && place >= marks) {
                    return false;
                }
                left /= DIGITS;
            }
            return left == 0;
        }

        int allMarks() {
            return (1 << marks) - 1;
        }

        int toldAt(int mark) {
            return told[mark] == OPEN ? NONE : told[mark];
        }

        boolean addSort(int chanceOf, int worthOf, int awayOf) {
            if (sorts == MOST_SORTS || marks > 0 || chanceOf < 1 || chanceOf > ALL_CHANCES) {
                return false;
            }
            chance[sorts] = chanceOf;
            worth[sorts] = worthOf;
            away[sorts] = awayOf;
            sorts++;
            return true;
        }

        /** The COSTS stand in the numbers behind the USE. */
        boolean addMark(int[] numbers, int size) {
            if (marks == MOST_MARKS || numbers[0] > MOST_USE || size != 1 + sorts) {
                return false;
            }
            use[marks] = numbers[0];
            told[marks] = OPEN;
            for (int sort = 0; sort < sorts; sort++) {
                cost[marks][sort] = numbers[1 + sort];
            }
            marks++;
            return true;
        }

        boolean tell(int mark, int sort) {
            if (!hasMark(mark) || !hasSort(sort)) {
                return false;
            }
            told[mark] = sort;
            return true;
        }

        int join(int a, int b) {
            if (marks == MOST_MARKS) {
                return NO_ROOM;
            }
            use[marks] = Math.min(MOST_USE, use[a] + use[b]);
            told[marks] = OPEN;
            for (int sort = 0; sort < sorts; sort++) {
                cost[marks][sort] = Math.min(MOST_MONEY, cost[a][sort] + cost[b][sort]);
            }
            marks++;
            return marks - 1;
        }

        boolean isWhole() {
            int together = 0;
            for (int sort = 0; sort < sorts; sort++) {
                together += chance[sort];
            }
            return together == ALL_CHANCES && marks > 0;
        }

        void moveChance(int from, int to, int n) {
            chance[from] -= n;
            chance[to] += n;
        }

        int sortDrawn(int drawn) {
            int together = 0;
            for (int sort = 0; sort < sorts; sort++) {
                together += chance[sort];
                if (drawn < together) {
                    return sort;
                }
            }
            return 0;
        }

        int leastWorth() {
            int least = MOST_MONEY;
            for (int sort = 0; sort < sorts; sort++) {
                least = Math.min(least, worth[sort]);
            }
            return least;
        }

        int mostWorth() {
            int most = 0;
            for (int sort = 0; sort < sorts; sort++) {
                most = Math.max(most, worth[sort]);
            }
            return most;
        }

        /** A hundred times the mean WORTH of all. */
        int meanWorth() {
            int sum = 0;
            for (int sort = 0; sort < sorts; sort++) {
                sum += chance[sort] * worth[sort];
            }
            return sum;
        }

        int toldThoughts() {
            int counted = 0;
            for (int mark = 0; mark < marks; mark++) {
                if (told[mark] != OPEN) {
                    counted++;
                }
            }
            return counted;
        }

        int allWorth() {
            int sum = 0;
            for (int sort = 0; sort < sorts; sort++) {
                sum += worth[sort];
            }
            return sum;
        }

        int allCosts() {
            int sum = 0;
            for (int mark = 0; mark < marks; mark++) {
                for (int sort = 0; sort < sorts; sort++) {
                    sum += cost[mark][sort];
                }
            }
            return sum;
        }
    }

    /** Reads a text byte by byte into a market of its own. */
    static final class Reader {
        final Market found = new Market();
        private final int[] numbers = new int[1 + MOST_SORTS];
        private int letter;
        private int letterPlace;
        private int ended;
        private int digits;
        private int value;
        private int statements;
        private int untrue;

        /** How many STATEMENTS, or the FAULT. */
        int readFrom(Shelf text) {
            found.clear();
            letter = 0;
            statements = 0;
            untrue = -1;
            for (int i = 0; i < text.size; i++) {
                if (!goesOn(text.values[i], i)) {
                    return -1000 - i;
                }
            }
            if (letter != 0 || statements == 0) {
                return -1000 - text.size;
            }
            if (untrue >= 0) {
                return -2000 - untrue;
            }
            return found.isWhole() ? statements : -3000;
        }

        private boolean goesOn(int sign, int place) {
            if (letter == 0) {
                return begins(sign, place);
            }
            if (sign >= '0' && sign <= '9') {
                return takesDigit(sign - '0');
            }
            if (digits == 0) {
                return false;
            }
            if (sign == ' ' && ended + 1 < mostNumbers()) {
                endNumber();
                return true;
            }
            if (sign == ';' && ended + 1 >= leastNumbers()) {
                endNumber();
                endStatement();
                return true;
            }
            return false;
        }

        private boolean begins(int sign, int place) {
            if (sign != 's' && sign != 'm' && sign != 't') {
                return false;
            }
            letter = sign;
            letterPlace = place;
            ended = 0;
            digits = 0;
            value = 0;
            return true;
        }

        private boolean takesDigit(int digit) {
            boolean zeroAhead = digits > 0 && value == 0;
            if (digits == 3 || zeroAhead) {
                return false;
            }
            value = 10 * value + digit;
            digits++;
            return true;
        }

        private int mostNumbers() {
            if (letter == 'm') {
                return MOST_ELEMENTS;
            }
            return leastNumbers();
        }

        private int leastNumbers() {
            if (letter == 'm') {
                return 1;
            }
            return letter == 's' ? 3 : 2;
        }

        private void endNumber() {
            // More COSTS than there can be SORTS are only counted.
            if (ended < numbers.length) {
                numbers[ended] = value;
            }
            ended++;
            digits = 0;
            value = 0;
        }

        private void endStatement() {
            if (untrue < 0 && !isAsTold()) {
                untrue = letterPlace;
            }
            statements++;
            letter = 0;
        }

        private boolean isAsTold() {
            switch (letter) {
                case 's':
                    return found.addSort(numbers[0], numbers[1], numbers[2]);
                case 'm':
                    return found.addMark(numbers, ended);
                default:
                    return found.tell(numbers[0], numbers[1]);
            }
        }
    }

    /** One FIT: what is paid in it, and what each SORT GETS there and would GET elsewhere. */
    static final class Scales {
        private final Market market;
        final int[] place = new int[MOST_SORTS];
        final long[] payTop = new long[MOST_MARKS];
        final long[] payUnder = new long[MOST_MARKS];
        long lotsTop;
        long lotsUnder;
        boolean allOpen;
        int bars;
        int taxed;
        int tax;
        private int made;
        private long whole = 1;
        private long span = 1;
        private long known;

        Scales(Market market) {
            this.market = market;
        }

        void weigh(int fit) {
            lay(fit);
            for (int mark = 0; mark < market.marks; mark++) {
                if (isMade(mark)) {
                    payMakers(mark);
                } else {
                    payTop[mark] = thoughtWorth(mark) + market.use[mark];
                    payUnder[mark] = 1;
                }
            }
        }

        void lay(int fit) {
            int left = fit;
            made = 0;
            for (int sort = 0; sort < market.sorts; sort++) {
                place[sort] = left % DIGITS;
                left /= DIGITS;
                if (place[sort] != AWAY) {
                    made |= 1 << place[sort];
                }
            }
        }

        boolean isMade(int mark) {
            return (made >> mark & 1) == 1;
        }

        private void payMakers(int mark) {
            long chances = 0;
            long worths = 0;
            for (int sort = 0; sort < market.sorts; sort++) {
                if (place[sort] == mark) {
                    chances += market.chance[sort];
                    worths += market.chance[sort] * market.worth[sort];
                }
            }
            payTop[mark] = worths + chances * market.use[mark];
            payUnder[mark] = chances;
        }

        private int thoughtWorth(int mark) {
            int told = market.told[mark];
            boolean isTold = !allOpen && market.hasSort(told);
            return isTold ? market.worth[told] : market.leastWorth();
        }

        /** What is GOT from now on is summed over YEARS, in hundredths. */
        void lookOver(int years) {
            whole = 100;
            span = years;
            known = 0;
            for (int year = 0; year < years; year++) {
                known += Math.min(100, market.rate * year);
            }
        }

        void lookAtOnce() {
            whole = 1;
            span = 1;
            known = 0;
        }

        private long topAt(int sort, int at) {
            if (at == AWAY) {
                return span * market.away[sort];
            }
            long charged = market.cost[at][sort] + (at == taxed ? tax : 0);
            long unseen = (whole * span - known) * payTop[at];
            long seen = known * (market.worth[sort] + market.use[at]) * payUnder[at];
            return unseen + seen - whole * charged * payUnder[at];
        }

        private long underAt(int at) {
            return at == AWAY ? 1 : whole * payUnder[at];
        }

        long ownTop(int sort) {
            return topAt(sort, place[sort]);
        }

        long ownUnder(int sort) {
            return underAt(place[sort]);
        }

        /** The first MARK, away behind all, at which a SORT would GET more. */
        int firstLure(int sort) {
            long top = topAt(sort, place[sort]);
            long under = underAt(place[sort]);
            for (int mark = 0; mark < market.marks; mark++) {
                boolean free = (bars >> mark & 1) == 0;
                if (free && topAt(sort, mark) * under > top * underAt(mark)) {
                    return mark;
                }
            }
            return topAt(sort, AWAY) * under > top ? AWAY : NONE;
        }

        int firstRather() {
            for (int sort = 0; sort < market.sorts; sort++) {
                int at = firstLure(sort);
                if (at != NONE) {
                    return 10 * sort + at;
                }
            }
            return NONE;
        }

        boolean isSure() {
            return (made & bars) == 0 && firstRather() == NONE;
        }

        boolean isContentBut(int one) {
            for (int sort = 0; sort < market.sorts; sort++) {
                if (sort != one && firstLure(sort) != NONE) {
                    return false;
                }
            }
            return true;
        }

        boolean isBarred(int mark, int sort) {
            long most = market.mostWorth() + market.use[mark] - market.cost[mark][sort];
            return most * ownUnder(sort) < ownTop(sort);
        }

        /** By which MARK and SORT the FIT FALLS. */
        int fallsBy() {
            for (int mark = 0; mark < market.marks; mark++) {
                int sort = isMade(mark) ? NONE : firstDrawn(mark);
                if (sort != NONE) {
                    return 10 * mark + sort;
                }
            }
            return NONE;
        }

        private int firstDrawn(int mark) {
            int thought = leastNotBarred(mark);
            if (thought == NONE) {
                return NONE;
            }
            for (int sort = 0; sort < market.sorts; sort++) {
                long there = market.worth[thought] + market.use[mark] - market.cost[mark][sort];
                if (there * ownUnder(sort) > ownTop(sort)) {
                    return sort;
                }
            }
            return NONE;
        }

        private int leastNotBarred(int mark) {
            int least = NONE;
            for (int sort = 0; sort < market.sorts; sort++) {
                boolean less = least == NONE || market.worth[sort] < market.worth[least];
                if (less && !isBarred(mark, sort)) {
                    least = sort;
                }
            }
            return least;
        }

        /** Whether a SORT can stand between its MARK and b; then the part lies ready. */
        boolean drawsLots(int sort, int b) {
            int a = place[sort];
            if (a == AWAY || isMade(b)) {
                return false;
            }
            int level = market.worth[sort] + market.use[b] - market.cost[b][sort]
                    + market.cost[a][sort] - market.use[a];
            long others = 0;
            for (int other = 0; other < market.sorts; other++) {
                if (other != sort && place[other] == a) {
                    others += market.chance[other] * (market.worth[other] - level);
                }
            }
            long itself = market.chance[sort] * (level - market.worth[sort]);
            lotsTop = itself < 0 ? -others : others;
            lotsUnder = Math.abs(itself);
            return lotsTop > 0 && lotsTop < lotsUnder;
        }

        int waysByLots() {
            int ways = 0;
            for (int sort = 0; sort < market.sorts; sort++) {
                for (int b = 0; b < market.marks; b++) {
                    if (drawsLots(sort, b)) {
                        ways++;
                    }
                }
            }
            return ways;
        }

        boolean tellsAllApart(int fit) {
            lay(fit);
            // As many MARKS as SORTS: then nobody stays away, and no two make the same.
            return Integer.bitCount(made) == market.sorts;
        }

        int leastLoss() {
            int best = NONE;
            long bestTop = 0;
            long bestUnder = 1;
            for (int sort = 0; sort < market.sorts; sort++) {
                for (int step = 0; step <= market.marks; step++) {
                    int at = step == market.marks ? AWAY : step;
                    long top = ownTop(sort) * underAt(at) - topAt(sort, at) * ownUnder(sort);
                    long under = ownUnder(sort) * underAt(at);
                    boolean less = best == NONE || top * bestUnder < bestTop * under;
                    if (at != place[sort] && less) {
                        best = 10 * sort + at;
                        bestTop = top;
                        bestUnder = under;
                    }
                }
            }
            return best;
        }

        int wasted() {
            int sum = 0;
            for (int sort = 0; sort < market.sorts; sort++) {
                if (place[sort] != AWAY) {
                    sum += market.chance[sort] * market.cost[place[sort]][sort];
                }
            }
            return sum;
        }

        long gainTop(int sort, int what) {
            long seen = what == 0 ? market.meanWorth() : ALL_CHANCES * market.worth[sort];
            long beside = Math.max(seen, ALL_CHANCES * market.away[sort]);
            return ALL_CHANCES * ownTop(sort) - beside * ownUnder(sort);
        }

        long gainUnder(int sort) {
            return ALL_CHANCES * ownUnder(sort);
        }
    }

    /** PAY told ahead, and where each SORT goes by it. */
    static final class Line {
        private final Market market;
        private final int[] pay = new int[MOST_MARKS];
        final int[] place = new int[MOST_SORTS];
        private final int[] got = new int[MOST_SORTS];

        Line(Market market) {
            this.market = market;
        }

        boolean readFrom(Shelf row) {
            if (row.size != market.marks) {
                return false;
            }
            for (int mark = 0; mark < market.marks; mark++) {
                int told = row.values[mark];
                if (told < 0 || told > MOST_PAY) {
                    return false;
                }
                pay[mark] = told;
            }
            for (int sort = 0; sort < market.sorts; sort++) {
                settle(sort);
            }
            return true;
        }

        private void settle(int sort) {
            place[sort] = 0;
            got[sort] = pay[0] - market.cost[0][sort];
            for (int mark = 1; mark < market.marks; mark++) {
                int there = pay[mark] - market.cost[mark][sort];
                if (there > got[sort]) {
                    place[sort] = mark;
                    got[sort] = there;
                }
            }
            if (market.away[sort] > got[sort]) {
                place[sort] = AWAY;
                got[sort] = market.away[sort];
            }
        }

        private int surplus(int sort, int mark, int paid) {
            return market.chance[sort] * (market.worth[sort] + market.use[mark] - paid);
        }

        int firstLoss() {
            for (int mark = 0; mark < market.marks; mark++) {
                int sum = 0;
                for (int sort = 0; sort < market.sorts; sort++) {
                    if (place[sort] == mark) {
                        sum += surplus(sort, mark, pay[mark]);
                    }
                }
                if (sum < 0) {
                    return mark;
                }
            }
            return NONE;
        }

        int firstOffer() {
            for (int mark = 0; mark < market.marks; mark++) {
                // Who pays as much as the best work is worth, or more, earns nothing.
                int earnsNothing = market.mostWorth() + market.use[mark];
                for (int offer = 0; offer < earnsNothing; offer++) {
                    if (earned(mark, offer) > 0) {
                        return 10000 * mark + offer;
                    }
                }
            }
            return NONE;
        }

        private int earned(int mark, int offer) {
            int sum = 0;
            for (int sort = 0; sort < market.sorts; sort++) {
                if (offer - market.cost[mark][sort] > got[sort]) {
                    sum += surplus(sort, mark, offer);
                }
            }
            return sum;
        }
    }

    /** Holds nothing, a FIT, or a ROW. */
    static final class Shelf {
        private static final int NO_ROW = -1;
        final int[] values = new int[MOST_ELEMENTS];
        int rowSort = NO_ROW;
        int size;
        Fit fit;

        void clear() {
            rowSort = NO_ROW;
            size = 0;
            fit = null;
        }

        void holdFit(Fit held) {
            clear();
            fit = held;
        }

        void holdRow(int sort, int n) {
            clear();
            rowSort = sort;
            size = n;
            Arrays.fill(values, 0);
        }

        boolean isBare() {
            return fit == null && rowSort == NO_ROW;
        }

        boolean holdsRow() {
            return rowSort != NO_ROW;
        }

        boolean holdsRowOf(int sort) {
            return holdsRow() && rowSort == sort;
        }

        boolean hasPlaces(int first, int n) {
            return first >= 0 && n >= 0 && n <= size && first <= size - n;
        }

        void setValue(int i, int v) {
            if (rowSort == BYTES) {
                values[i] = (byte) v;
            } else if (rowSort == SHORTS) {
                values[i] = (short) v;
            } else {
                values[i] = v;
            }
        }
    }

    /** A FIT that is held, as it was when it was put there. */
    static class Fit {
        private final int number;
        final int made;
        final int stayed;
        private final int sorts;

        Fit(int number, int sorts) {
            int left = number;
            int marks = 0;
            int away = 0;
            for (int sort = 0; sort < sorts; sort++) {
                int place = left % DIGITS;
                left /= DIGITS;
                if (place == AWAY) {
                    away++;
                } else {
                    marks |= 1 << place;
                }
            }
            this.number = number;
            this.sorts = sorts;
            made = Integer.bitCount(marks);
            stayed = away;
        }

        int broad() {
            return made;
        }

        int failure() {
            return number;
        }

        boolean canFail() {
            return stayed < sorts;
        }

        private void fail() {
            if (canFail()) {
                throw new IllegalStateException("the fit fails");
            }
        }

        /** The FAILURE's number, when it has been thrown and caught. */
        int caught() {
            try {
                fail();
                return NO_FAILURE;
            } catch (IllegalStateException thrown) {
                return failure();
            }
        }
    }

    static class Apart extends Fit {
        Apart(int number, int sorts) {
            super(number, sorts);
        }

        int broad() {
            return 2 * super.broad();
        }
    }

    static class Together extends Fit {
        Together(int number, int sorts) {
            super(number, sorts);
        }

        int broad() {
            return super.broad() + 5;
        }
    }

    static final class Partly extends Fit {
        Partly(int number, int sorts) {
            super(number, sorts);
        }

        int broad() {
            return super.broad() + stayed;
        }

        boolean canFail() {
            return false;
        }
    }

    static final class Told extends Apart {
        Told(int number, int sorts) {
            super(number, sorts);
        }

        int broad() {
            return super.broad() + 1;
        }

        int failure() {
            return super.failure() + 1000;
        }
    }

    static final class Asked extends Together {
        Asked(int number, int sorts) {
            super(number, sorts);
        }

        int broad() {
            return 2 * super.broad();
        }

        int failure() {
            return made;
        }
    }
}
