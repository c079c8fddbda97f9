import java.math.BigInteger;
import java.util.ArrayList;
import java.util.List;

/** Compares every call with a slow second reading of the document, on many markets made by fixed seeds. */
public final class OracleTest {
    static final long NOF = -4611686018427387904L;
    static int wrong = 0;
    static int compared = 0;
    static String now = "";

    /** An exact fraction. */
    static final class Q implements Comparable<Q> {
        final BigInteger top;
        final BigInteger under;

        Q(BigInteger t, BigInteger u) {
            BigInteger g = t.gcd(u);
            if (u.signum() < 0) {
                g = g.negate();
            }
            top = t.divide(g);
            under = u.divide(g);
        }

        static Q of(long t, long u) {
            return new Q(BigInteger.valueOf(t), BigInteger.valueOf(u));
        }

        static Q of(long t) {
            return of(t, 1);
        }

        Q plus(Q o) {
            return new Q(top.multiply(o.under).add(o.top.multiply(under)), under.multiply(o.under));
        }

        Q less(Q o) {
            return plus(new Q(o.top.negate(), o.under));
        }

        Q times(Q o) {
            return new Q(top.multiply(o.top), under.multiply(o.under));
        }

        Q by(Q o) {
            return new Q(top.multiply(o.under), under.multiply(o.top));
        }

        public int compareTo(Q o) {
            return top.multiply(o.under).compareTo(o.top.multiply(under));
        }

        boolean above(Q o) {
            return compareTo(o) > 0;
        }

        long part(int p) {
            return (p == 0 ? top : under).longValueExact();
        }
    }

    /** The market, read a second time from the document. */
    static final class M {
        List<int[]> sorts = new ArrayList<>(); // chance, worth, away
        List<int[]> marks = new ArrayList<>(); // use, told, costs
        int rate;

        M twin() {
            M m = new M();
            for (int[] s : sorts) {
                m.sorts.add(s.clone());
            }
            for (int[] k : marks) {
                m.marks.add(k.clone());
            }
            m.rate = rate;
            return m;
        }

        int S() {
            return sorts.size();
        }

        int K() {
            return marks.size();
        }

        int numbers() {
            return (int) Math.round(Math.pow(5, S()));
        }

        /** The places as digits, or null. */
        int[] digits(int fit) {
            if (fit < 0 || fit >= numbers()) {
                return null;
            }
            String t = Integer.toString(fit, 5);
            while (t.length() < S()) {
                t = "0" + t;
            }
            int[] at = new int[S()];
            for (int s = 0; s < S(); s++) {
                at[s] = t.charAt(S() - 1 - s) - '0';
                if (at[s] != 4 && at[s] >= K()) {
                    return null;
                }
            }
            return at;
        }

        boolean isMade(int[] at, int k) {
            for (int a : at) {
                if (a == k) {
                    return true;
                }
            }
            return false;
        }

        Q payAt(int[] at, int k) {
            Q use = Q.of(marks.get(k)[0]);
            long c = 0;
            long w = 0;
            int low = 1000;
            for (int s = 0; s < S(); s++) {
                low = Math.min(low, sorts.get(s)[1]);
                if (at[s] == k) {
                    c += sorts.get(s)[0];
                    w += (long) sorts.get(s)[0] * sorts.get(s)[1];
                }
            }
            if (c > 0) {
                return Q.of(w, c).plus(use);
            }
            int told = marks.get(k)[1];
            return Q.of(told < 0 ? low : sorts.get(told)[1]).plus(use);
        }

        Q there(int[] at, int s, int place) {
            return place == 4 ? Q.of(sorts.get(s)[2]) : payAt(at, place).less(Q.of(marks.get(place)[2 + s]));
        }

        Q over(int[] at, int s, int place, int n) {
            if (place == 4) {
                return Q.of((long) n * sorts.get(s)[2]);
            }
            Q sum = Q.of(0);
            for (int y = 0; y < n; y++) {
                int known = Math.min(100, rate * y);
                sum = sum.plus(Q.of(100 - known).times(payAt(at, place)));
                sum = sum.plus(Q.of(known).times(Q.of(sorts.get(s)[1] + marks.get(place)[0])));
            }
            return sum.by(Q.of(100)).less(Q.of(marks.get(place)[2 + s]));
        }

        /** n below 0: at once. */
        int ratherIn(int[] at, int n) {
            for (int s = 0; s < S(); s++) {
                Q own = n < 0 ? there(at, s, at[s]) : over(at, s, at[s], n);
                for (int k = 0; k <= 4; k++) {
                    if (k < K() || k == 4) {
                        Q other = n < 0 ? there(at, s, k) : over(at, s, k, n);
                        if (other.above(own)) {
                            return 10 * s + k;
                        }
                    }
                }
            }
            return -4;
        }

        boolean sure(int fit) {
            int[] at = digits(fit);
            return at != null && ratherIn(at, -1) == -4;
        }

        boolean isBarred(int[] at, int k, int s) {
            Q most = null;
            for (int o = 0; o < S(); o++) {
                Q g = Q.of(sorts.get(o)[1] + marks.get(k)[0] - marks.get(k)[2 + s]);
                if (most == null || g.above(most)) {
                    most = g;
                }
            }
            return there(at, s, at[s]).above(most);
        }

        int fallsIn(int[] at) {
            for (int k = 0; k < K(); k++) {
                if (isMade(at, k)) {
                    continue;
                }
                int low = -1;
                for (int s = 0; s < S(); s++) {
                    if (!isBarred(at, k, s) && (low < 0 || sorts.get(s)[1] < low)) {
                        low = sorts.get(s)[1];
                    }
                }
                if (low < 0) {
                    continue;
                }
                for (int s = 0; s < S(); s++) {
                    if (Q.of(low + marks.get(k)[0] - marks.get(k)[2 + s]).above(there(at, s, at[s]))) {
                        return 10 * k + s;
                    }
                }
            }
            return -4;
        }

        M allOpen() {
            M m = twin();
            for (int[] k : m.marks) {
                k[1] = -1;
            }
            return m;
        }

        /** The part q, by the equation told in words, or null. */
        Q lotsOf(int[] at, int s, int b) {
            int a = at[s];
            if (a == 4 || isMade(at, b)) {
                return null;
            }
            int[] ma = marks.get(a);
            int[] mb = marks.get(b);
            Q goal = Q.of(sorts.get(s)[1] + mb[0] - mb[2 + s] + ma[2 + s] - ma[0]);
            Q up = Q.of(0);
            for (int o = 0; o < S(); o++) {
                if (o != s && at[o] == a) {
                    up = up.plus(Q.of(sorts.get(o)[0]).times(Q.of(sorts.get(o)[1]).less(goal)));
                }
            }
            Q down = Q.of(sorts.get(s)[0]).times(goal.less(Q.of(sorts.get(s)[1])));
            if (down.top.signum() == 0) {
                return null;
            }
            Q q = up.by(down);
            return q.above(Q.of(0)) && Q.of(1).above(q) ? q : null;
        }

        int wasteOf(int[] at) {
            int sum = 0;
            for (int s = 0; s < S(); s++) {
                if (at[s] != 4) {
                    sum += sorts.get(s)[0] * marks.get(at[s])[2 + s];
                }
            }
            return sum;
        }

        Q gainOf(int[] at, int s, int what) {
            Q beside = Q.of(sorts.get(s)[1]);
            if (what == 0) {
                long sum = 0;
                for (int[] o : sorts) {
                    sum += (long) o[0] * o[1];
                }
                beside = Q.of(sum, 100);
            }
            Q away = Q.of(sorts.get(s)[2]);
            return there(at, s, at[s]).less(away.above(beside) ? away : beside);
        }

        int justNotIn(int[] at) {
            Q least = null;
            int best = -4;
            for (int s = 0; s < S(); s++) {
                for (int k = 0; k <= 4; k++) {
                    if (k != at[s] && (k < K() || k == 4)) {
                        Q loss = there(at, s, at[s]).less(there(at, s, k));
                        if (least == null || least.above(loss)) {
                            least = loss;
                            best = 10 * s + k;
                        }
                    }
                }
            }
            return best;
        }

        int apartOf() {
            int best = -4;
            for (int f = 0; f < numbers(); f++) {
                int[] at = digits(f);
                if (at == null || !sure(f)) {
                    continue;
                }
                boolean ok = true;
                for (int s = 0; s < S(); s++) {
                    ok &= at[s] != 4;
                    for (int o = 0; o < s; o++) {
                        ok &= at[s] != at[o];
                    }
                }
                if (ok && (best < 0 || wasteOf(at) < wasteOf(digits(best)))) {
                    best = f;
                }
            }
            return best;
        }

        /** The market in which the barred marks are not there; marks keep their order. */
        M without(int set) {
            M m = twin();
            for (int k = K() - 1; k >= 0; k--) {
                if ((set >> k & 1) == 1) {
                    m.marks.remove(k);
                }
            }
            return m;
        }

        int sures() {
            int c = 0;
            for (int f = 0; f < numbers(); f++) {
                c += sure(f) ? 1 : 0;
            }
            return c;
        }

        /** The least waste of sure fits, counted with the costs of the market given. */
        int leastWaste(M costs) {
            int least = -4;
            for (int f = 0; f < numbers(); f++) {
                if (sure(f)) {
                    int w = costs.wasteOf(digits(f));
                    least = least == -4 ? w : Math.min(least, w);
                }
            }
            return least;
        }

        int[] bestBar() {
            int[] best = {-4, -4};
            for (int bits = 0; bits < K(); bits++) {
                for (int set = 0; set < (1 << K()) - 1; set++) {
                    if (Integer.bitCount(set) == bits) {
                        M m = without(set);
                        int w = m.leastWaste(m);
                        if (w != -4 && (best[1] == -4 || w < best[1])) {
                            best = new int[] {set, w};
                        }
                    }
                }
            }
            return best;
        }

        int[] bestTaxOf(int k) {
            int[] best = {-4, -4};
            for (int t = 0; t < 100; t += 10) {
                M m = twin();
                for (int s = 0; s < S(); s++) {
                    m.marks.get(k)[2 + s] += t;
                }
                int w = m.leastWaste(this);
                if (w != -4 && (best[1] == -4 || w < best[1])) {
                    best = new int[] {t, w};
                }
            }
            return best;
        }

        int edgeOf(int fit, int k, int s) {
            M m = twin();
            for (int c = 0; c < 1000; c++) {
                m.marks.get(k)[2 + s] = c;
                if (m.sure(fit)) {
                    return c;
                }
            }
            return -4;
        }

        int movedOf(int fit, int from, int to) {
            M m = twin();
            for (int n = 1; n < 100; n++) {
                m.sorts.get(from)[0]--;
                m.sorts.get(to)[0]++;
                if (m.sorts.get(from)[0] < 1) {
                    return -4;
                }
                if (m.sure(fit) != sure(fit)) {
                    return n;
                }
            }
            return -4;
        }

        int runOf(int[] at, int n, int z, int place) {
            int c = 0;
            long v = z;
            for (int i = 0; i < n; i++) {
                v = (int) (v * 1103515245L + 12345L);
                int low = (int) ((v & 0x7fffffffL) >> 16) % 100;
                int s = 0;
                int sum = sorts.get(0)[0];
                while (low >= sum) {
                    s++;
                    sum += sorts.get(s)[0];
                }
                c += at[s] == place ? 1 : 0;
            }
            return c;
        }

        int standingOf() {
            int c = 0;
            for (int f = 0; f < numbers(); f++) {
                int[] at = digits(f);
                for (int s = 0; at != null && s < S(); s++) {
                    for (int b = 0; b < K(); b++) {
                        c += lotsOf(at, s, b) != null ? 1 : 0;
                    }
                }
            }
            return c;
        }

        int placeBy(int[] line, int s) {
            int best = 4;
            int got = sorts.get(s)[2];
            for (int k = K() - 1; k >= 0; k--) {
                if (line[k] - marks.get(k)[2 + s] >= got) {
                    best = k;
                    got = line[k] - marks.get(k)[2 + s];
                }
            }
            return best;
        }

        int gotBy(int[] line, int s) {
            int p = placeBy(line, s);
            return p == 4 ? sorts.get(s)[2] : line[p] - marks.get(p)[2 + s];
        }

        int losesBy(int[] line) {
            for (int k = 0; k < K(); k++) {
                int sum = 0;
                for (int s = 0; s < S(); s++) {
                    if (placeBy(line, s) == k) {
                        sum += sorts.get(s)[0] * (sorts.get(s)[1] + marks.get(k)[0] - line[k]);
                    }
                }
                if (sum < 0) {
                    return k;
                }
            }
            return -4;
        }

        int brokenBy(int[] line) {
            for (int k = 0; k < K(); k++) {
                for (int p = 0; p < 2000; p++) {
                    int sum = 0;
                    for (int s = 0; s < S(); s++) {
                        if (p - marks.get(k)[2 + s] > gotBy(line, s)) {
                            sum += sorts.get(s)[0] * (sorts.get(s)[1] + marks.get(k)[0] - p);
                        }
                    }
                    if (sum > 0) {
                        return 10000 * k + p;
                    }
                }
            }
            return -4;
        }

        String text() {
            StringBuilder b = new StringBuilder();
            for (int[] s : sorts) {
                b.append("s" + s[0] + " " + s[1] + " " + s[2] + ";");
            }
            for (int[] k : marks) {
                b.append("m" + k[0]);
                for (int s = 0; s < S(); s++) {
                    b.append(" " + k[2 + s]);
                }
                b.append(";");
            }
            for (int k = 0; k < K(); k++) {
                if (marks.get(k)[1] >= 0) {
                    b.append("t" + k + " " + marks.get(k)[1] + ";");
                }
            }
            return b.toString();
        }
    }

    static long seed = 20261118L;

    static int below(int n) {
        seed = seed * 6364136223846793005L + 1442695040888963407L;
        return (int) ((seed >>> 33) % n);
    }

    static void due(String call, long got, long want) {
        compared++;
        if (got != want && wrong++ < 40) {
            System.out.println(now + ": " + call + " answered " + got + ", due is " + want);
        }
    }

    static M madeMarket() {
        M m = new M();
        int sorts = 1 + below(4);
        int marks = 1 + below(4);
        int scale = new int[] {5, 30, 100, 999}[below(4)];
        int left = 100;
        for (int s = 0; s < sorts; s++) {
            int rest = sorts - 1 - s;
            int chance = rest == 0 ? left : 1 + below(left - rest);
            left -= chance;
            int away = below(3) == 0 ? below(scale + 1) : below(2) * below(scale / 2);
            m.sorts.add(new int[] {chance, below(scale + 1), away});
        }
        for (int k = 0; k < marks; k++) {
            int[] mark = new int[2 + sorts];
            mark[0] = below(3) == 0 ? below(Math.min(99, scale) + 1) : 0;
            mark[1] = below(3) == 0 ? below(sorts) : -1;
            int steep = below(scale + 1);
            for (int s = 0; s < sorts; s++) {
                // Often a mark is the cheaper for a sort the more its work is worth.
                int cost = below(2) == 0 ? below(steep + 1) : steep * (sorts - s) / sorts;
                mark[2 + s] = k == 0 && below(2) == 0 ? 0 : cost;
            }
            m.marks.add(mark);
        }
        m.sorts.get(0)[1] = below(2) == 0 ? m.sorts.get(0)[1] / 4 : m.sorts.get(0)[1];
        return m;
    }

    static FurrowFair read(M m) {
        FurrowFair x = new FurrowFair();
        String text = m.text();
        if (text.length() > 120) {
            return null;
        }
        x.row(0, 0, text.length());
        for (int i = 0; i < text.length(); i++) {
            x.put(0, i, text.charAt(i));
        }
        due("market", x.market(0), text.chars().filter(c -> c == ';').count());
        return x;
    }

    static int someFit(M m) {
        for (int i = 0; i < 1000; i++) {
            int f = below(m.numbers());
            if (m.digits(f) != null && (i > 60 || below(3) > 0 || m.sure(f))) {
                return f;
            }
        }
        return 0;
    }

    static void compareFit(FurrowFair x, M m, int f) {
        int[] at = m.digits(f);
        boolean sure = m.sure(f);
        String h = "(" + f + ") ";
        due(h + "rather", x.rather(f), m.ratherIn(at, -1));
        due(h + "waste", x.waste(f), m.wasteOf(at));
        due(h + "falls", x.falls(f), sure ? m.fallsIn(at) : -3);
        due(h + "justNot", x.justNot(f), sure ? m.justNotIn(at) : -3);
        int[] losers = new int[2];
        for (int s = 0; s < m.S(); s++) {
            for (int p = 0; p < 2; p++) {
                due(h + "gets" + s, x.gets(f, s, p), m.there(at, s, at[s]).part(p));
                due(h + "gain0" + s, x.gain(f, s, 0, p), m.gainOf(at, s, 0).part(p));
                due(h + "gain1" + s, x.gain(f, s, 1, p), m.gainOf(at, s, 1).part(p));
            }
            losers[0] |= m.gainOf(at, s, 0).top.signum() < 0 ? 1 << s : 0;
            losers[1] |= m.gainOf(at, s, 1).top.signum() < 0 ? 1 << s : 0;
        }
        due(h + "losers0", x.losers(f, 0), losers[0]);
        due(h + "losers1", x.losers(f, 1), losers[1]);
        for (int k = 0; k < m.K(); k++) {
            due(h + "pay" + k, x.pay(f, k, 0), m.payAt(at, k).part(0));
            due(h + "pay" + k, x.pay(f, k, 1), m.payAt(at, k).part(1));
            for (int s = 0; s < m.S(); s++) {
                int barred = !sure || m.isMade(at, k) ? -3 : m.isBarred(at, k, s) ? 1 : 0;
                due(h + "barred" + k + s, x.barred(f, k, s), barred);
                Q q = m.lotsOf(at, s, k);
                due(h + "lots" + s + k, x.lots(f, s, k, 0), q == null ? NOF : q.part(0));
                due(h + "lots" + s + k, x.lots(f, s, k, 1), q == null ? NOF : q.part(1));
            }
        }
        int k = below(m.K());
        int s = below(m.S());
        due(h + "edge" + k + s, x.edge(f, k, s), m.edgeOf(f, k, s));
        if (m.S() > 1) {
            int to = (s + 1 + below(m.S() - 1)) % m.S();
            due(h + "moved" + s + to, x.moved(f, s, to), m.movedOf(f, s, to));
        }
        int n = 1 + below(12);
        due(h + "ratherOver" + n, x.ratherOver(f, n), m.ratherIn(at, n));
        due(h + "years" + n, x.years(f, s, n, 0), m.over(at, s, at[s], n).part(0));
        due(h + "years" + n, x.years(f, s, n, 1), m.over(at, s, at[s], n).part(1));
        int folk = 1 + below(99);
        int z = below(65536) * 65536 + below(65536);
        int place = below(3) == 0 ? 4 : k;
        due(h + "run", x.run(f, folk, z, place), m.runOf(at, folk, z, place));
    }

    static void compareLine(FurrowFair x, M m) {
        int[] line = new int[m.K()];
        x.row(1, 1, m.K());
        int scale = below(2) == 0 ? 2000 : 1 + m.sorts.get(below(m.S()))[1] + 20;
        for (int k = 0; k < m.K(); k++) {
            line[k] = below(scale);
            x.put(1, k, line[k]);
        }
        for (int s = 0; s < m.S(); s++) {
            due("makes" + s, x.makes(1, s), m.placeBy(line, s));
        }
        due("loses", x.loses(1), m.losesBy(line));
        due("broken", x.broken(1), m.brokenBy(line));
    }

    static void compareWhole(FurrowFair x, M m) {
        due("all0", x.all(0), m.sures());
        due("all1", x.all(1), m.allOpen().sures());
        int left = 0;
        int after = -1;
        for (int f = 0; f < m.numbers(); f++) {
            if (m.sure(f)) {
                left += m.fallsIn(m.digits(f)) == -4 ? 1 : 0;
                if (below(8) == 0 || after == -1) {
                    due("next" + after, x.next(after), nextAfter(m, after));
                }
                after = f;
            }
        }
        due("next" + after, x.next(after), -4);
        due("all2", x.all(2), left);
        due("apart", x.apart(), m.apartOf());
        due("standing", x.standing(), m.standingOf());
        int set = below((1 << m.K()) - 1);
        due("bars" + set, x.bars(set), m.without(set).sures());
        int[] bar = m.bestBar();
        due("leastBar0", x.leastBar(0), bar[0]);
        due("leastBar1", x.leastBar(1), bar[1]);
        int k = below(m.K());
        int[] tax = m.bestTaxOf(k);
        due("bestTax0", x.bestTax(k, 0), tax[0]);
        due("bestTax1", x.bestTax(k, 1), tax[1]);
    }

    static int nextAfter(M m, int after) {
        for (int f = after + 1; f < m.numbers(); f++) {
            if (m.sure(f)) {
                return f;
            }
        }
        return -4;
    }

    static void compareTold(FurrowFair x, M m) {
        int told = 0;
        int worth = 0;
        int costs = 0;
        for (int s = 0; s < m.S(); s++) {
            worth += m.sorts.get(s)[1];
            for (int w = 0; w < 3; w++) {
                due("sort" + s, x.sort(s, w), m.sorts.get(s)[w]);
            }
        }
        for (int k = 0; k < m.K(); k++) {
            int[] mark = m.marks.get(k);
            told += mark[1] >= 0 ? 1 : 0;
            due("mark" + k, x.mark(k, -1), mark[0]);
            due("mark" + k, x.mark(k, -2), mark[1] < 0 ? -4 : mark[1]);
            for (int s = 0; s < m.S(); s++) {
                costs += mark[2 + s];
                due("mark" + k, x.mark(k, s), mark[2 + s]);
            }
        }
        int[] want = {m.S(), m.K(), told, worth, costs};
        for (int w = 0; w < 5; w++) {
            due("count" + w, x.count(w), want[w]);
        }
    }

    static void alter(FurrowFair x, M m) {
        int s = below(m.S());
        int k = below(m.K());
        int n = below(1000);
        switch (below(6)) {
            case 0:
                due("change", x.change(s, 0, n), m.sorts.get(s)[1]);
                m.sorts.get(s)[1] = n;
                break;
            case 1:
                due("change", x.change(s, 1, n / 9), m.sorts.get(s)[2]);
                m.sorts.get(s)[2] = n / 9;
                break;
            case 2:
                due("cost", x.cost(k, s, n), m.marks.get(k)[2 + s]);
                m.marks.get(k)[2 + s] = n;
                break;
            case 3:
                due("use", x.cost(k, -1, n / 11), m.marks.get(k)[0]);
                m.marks.get(k)[0] = n / 11;
                break;
            case 4:
                int t = below(m.S() + 1) - 1;
                due("think", x.think(k, t), m.marks.get(k)[1] < 0 ? -4 : m.marks.get(k)[1]);
                m.marks.get(k)[1] = t;
                break;
            default:
                int other = below(m.K());
                due("inOne", x.inOne(k, other), k == other ? -1 : m.K() == 4 ? -2 : m.K());
                if (k != other && m.K() < 4) {
                    int[] both = m.marks.get(k).clone();
                    both[0] = Math.min(99, both[0] + m.marks.get(other)[0]);
                    both[1] = -1;
                    for (int i = 2; i < both.length; i++) {
                        both[i] = Math.min(999, both[i] + m.marks.get(other)[i]);
                    }
                    m.marks.add(both);
                }
                break;
        }
    }

    public static void main(String[] args) {
        int markets = args.length > 0 ? Integer.parseInt(args[0]) : 250;
        if (args.length > 1) {
            seed = Long.parseLong(args[1]);
        }
        for (int i = 0; i < markets; i++) {
            M m = madeMarket();
            now = "market " + i + " " + m.text();
            FurrowFair x = read(m);
            if (x == null) {
                continue;
            }
            m.rate = below(2) * below(101);
            due("rate", x.rate(m.rate), 0);
            compareTold(x, m);
            for (int f = 0; f < 3; f++) {
                compareFit(x, m, someFit(m));
            }
            compareLine(x, m);
            compareLine(x, m);
            compareWhole(x, m);
            M image = m.twin();
            due("image", x.image(), m.S());
            for (int a = 0; a < 3; a++) {
                alter(x, m);
                now = "market " + i + " altered " + m.text() + " rate " + m.rate;
                compareTold(x, m);
                compareFit(x, m, someFit(m));
            }
            compareLine(x, m);
            due("all0", x.all(0), m.sures());
            due("restore", x.restore(), image.S());
            compareTold(x, image);
            now = "market " + i + " restored " + image.text() + " rate " + image.rate;
            compareFit(x, image, someFit(image));
            compareLine(x, image);
            due("all1", x.all(1), image.allOpen().sures());
            due("rate", x.rate(0), image.rate);
        }
        System.out.println(wrong == 0 ? compared + " answers are as due" : wrong + " of " + compared + " answers are not as due");
        if (wrong != 0) {
            System.exit(1);
        }
    }
}
