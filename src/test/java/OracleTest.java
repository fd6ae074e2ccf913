import java.util.ArrayList;
import java.util.List;
import java.util.NoSuchElementException;
import java.util.Random;

/**
 * Long runs of calls, drawn from fixed seeds, against a second program that follows the document's words
 * by the longest way: every rate looked at in turn, every path walked, every way to meet contracts tried.
 * Its arithmetic is exact or throws, so a number that does not fit would be seen too.
 */
public final class OracleTest {
    static final class Ref {
        static final class B {
            int kind, coupon, periods, extra, spread, stock;
            boolean barred;
            long[] flows;
            final long[] worths = new long[3201];
        }

        final List<B> bonds = new ArrayList<>();
        int notional = 600, least = 1, most = 40;
        int days = 0, start = 600, jump = 10, carry = 0, agreed = 100000000;

        static boolean in(long x, long a, long b) { return a <= x && x <= b; }
        boolean has(int b) { return in(b, 0, bonds.size() - 1); }
        static RuntimeException no() { return new NoSuchElementException(); }

        long bond(int kind, int coupon, int periods, int extra, int spread) {
            boolean good = in(kind, 0, 3) && in(coupon, 0, 2000) && in(periods, 1, 40) && in(spread, -200, 200);
            if (kind == 0 || kind == 3) good &= extra == 0;
            if (kind == 1) good &= in(extra, 1, 100);
            if (kind == 2) good &= in(extra, 1, periods);
            if (kind == 3) good &= coupon == 0;
            if (!good || bonds.size() == 8) return -1;
            B b = new B();
            b.kind = kind; b.coupon = coupon; b.periods = periods; b.extra = extra; b.spread = spread;
            b.flows = flows(b);
            bonds.add(b);
            return bonds.size() - 1;
        }

        static long[] flows(B b) {
            long[] f = new long[b.periods + 1];
            long[] back = new long[b.periods + 1];
            if (b.kind == 2) {
                long left = 100000000;
                for (int i = 1; i <= b.extra; i++) {
                    int t = b.periods - b.extra + i;
                    back[t] = i == b.extra ? left : 100000000 / b.extra;
                    left -= back[t];
                }
            } else {
                back[b.periods] = 100000000;
            }
            for (int t = 1; t <= b.periods; t++) {
                long owed = 100000000;
                for (int s = 1; s < t; s++) owed -= back[s];
                long c = b.coupon;
                if (b.kind == 1) for (int s = 2; s <= t; s++) c += b.extra;
                f[t] = c * owed / 10000 + back[t];
            }
            return f;
        }

        static long worth(B b, int r) {
            if (b.worths[r] == 0) b.worths[r] = worthAhead(b, r, 1);
            return b.worths[r];
        }
        static long worthAhead(B b, int r, int t) {
            if (t > b.periods) return 0;
            return Math.multiplyExact(Math.addExact(worthAhead(b, r, t + 1), b.flows[t]), 10000L) / (10000 + r);
        }
        static long pr(B b, int rate) { return Math.toIntExact(worth(b, Math.max(0, rate + b.spread))); }
        long factor(B b) { return worth(b, notional) / 10000; }
        boolean el(int i) {
            B b = bonds.get(i);
            return !b.barred && b.periods >= least && b.periods <= most && factor(b) > 0;
        }
        List<Integer> els() {
            List<Integer> l = new ArrayList<>();
            for (int i = 0; i < bonds.size(); i++) if (el(i)) l.add(i);
            return l;
        }

        long drop(int b) {
            if (!has(b)) return -1;
            bonds.remove(b);
            return bonds.size();
        }
        long alter(int b, int what, int v) {
            if (!has(b)) return 0;
            B x = bonds.get(b);
            if (what == 0 && in(v, -200, 200) && v != x.spread) { x.spread = v; return 1; }
            if (what == 1 && in(v, 0, 99) && v != x.stock) { x.stock = v; return 1; }
            if (what == 2 && in(v, 0, 1) && (v == 1) != x.barred) { x.barred = v == 1; return 1; }
            return 0;
        }
        long of(int b, int what) {
            if (!has(b) || !in(what, 0, 8)) throw no();
            B x = bonds.get(b);
            return new long[] {x.kind, x.coupon, x.periods, x.extra, x.spread, x.stock, x.barred ? 1 : 0, factor(x), el(b) ? 1 : 0}[what];
        }
        long flow(int b, int t) { return has(b) && in(t, 1, bonds.get(b).periods) ? Math.toIntExact(bonds.get(b).flows[t]) : -1; }
        long price(int b, int r) { return has(b) && in(r, 0, 3000) ? pr(bonds.get(b), r) : -1; }
        long rateOf(int b, int p) {
            if (!has(b)) return -1;
            for (int r = 0; r <= 3000; r++) if (pr(bonds.get(b), r) <= p) return r;
            return -1;
        }
        long contract(int n, int l, int m) {
            if (!in(n, 0, 3000) || !in(l, 1, 40) || !in(m, 1, 40) || l > m) return 0;
            if (n == notional && l == least && m == most) return 0;
            notional = n; least = l; most = m;
            return 1;
        }
        long count(int what) {
            long bits = 0, stocks = 0;
            for (int i : els()) { bits += 1L << i; stocks += bonds.get(i).stock; }
            long[] all = {bonds.size(), bits, notional, least, most, stocks, days, start, jump, carry, agreed};
            return in(what, 0, 10) ? all[what] : -1;
        }
        /** Below 0: i's basis price is less than j's. */
        int basis(int i, int j, int r) {
            B a = bonds.get(i), b = bonds.get(j);
            return Long.compare(Math.multiplyExact(pr(a, r), factor(b)), Math.multiplyExact(pr(b, r), factor(a)));
        }
        List<Integer> order(int r) {
            List<Integer> l = els();
            l.sort((i, j) -> basis(i, j, r));   // a stable sort: of like ones the first stays first
            return l;
        }
        long ranked(int r, int k) {
            if (!in(r, 0, 3000)) return -1;
            List<Integer> l = order(r);
            return in(k, 0, l.size() - 1) ? l.get(k) : -1;
        }
        long cheapest(int r) { return ranked(r, 0); }
        long mark(int r) {
            long c = cheapest(r);
            if (c < 0) return -1;
            B b = bonds.get((int) c);
            return Math.multiplyExact(pr(b, r), 10000L) / factor(b);
        }
        long invoice(B b, long m) { return Math.multiplyExact(m, factor(b)) / 10000; }
        long gap(int b, int r) {
            if (!has(b) || !el(b) || !in(r, 0, 3000)) throw no();
            return pr(bonds.get(b), r) - invoice(bonds.get(b), mark(r));
        }
        long switches(int from, int to, int k) {
            if (!in(from, 0, 3000) || !in(to, 0, 3000) || from > to || k < -1 || els().isEmpty()) return -1;
            List<Integer> found = new ArrayList<>();
            for (int r = from + 1; r <= to; r++) if (cheapest(r) != cheapest(r - 1)) found.add(r);
            if (k == -1) return found.size();
            return k < found.size() ? found.get(k) : -1;
        }
        long implied(long m) {
            if (els().isEmpty()) return -1;
            for (int r = 0; r <= 3000; r++) if (mark(r) <= m) return r;
            return -1;
        }

        /** By all ways to meet: best[j] has the least cost of j from the bonds behind, with the most of the first of them. */
        long[] meeting(int n, int r, int m) {
            if (!in(n, 0, 200) || !in(r, 0, 3000) || !in(m, 0, 999999999)) return null;
            int size = bonds.size();
            Long[][] best = new Long[size + 1][n + 1];
            int[][] take = new int[size + 1][n + 1];
            best[size][0] = 0L;
            for (int i = size - 1; i >= 0; i--) {
                B b = bonds.get(i);
                long each = pr(b, r) - invoice(b, m);
                int top = el(i) ? b.stock : 0;
                for (int j = 0; j <= n; j++) {
                    for (int t = Math.min(top, j); t >= 0; t--) {
                        Long rest = best[i + 1][j - t];
                        if (rest != null && (best[i][j] == null || rest + t * each < best[i][j])) {
                            best[i][j] = rest + t * each;
                            take[i][j] = t;
                        }
                    }
                }
            }
            if (best[0][n] == null) return new long[0];
            long[] answer = new long[size + 1];
            answer[size] = best[0][n];
            for (int i = 0, j = n; i < size; i++) { answer[i] = take[i][j]; j -= take[i][j]; }
            return answer;
        }
        long meet(int n, int r, int m, int b) {
            long[] a = meeting(n, r, m);
            if (a == null || b != -1 && !has(b)) return -1;
            if (b == -1) return a.length > 0 ? 1 : 0;
            return a.length > 0 ? a[b] : -1;
        }
        long cost(int n, int r, int m) {
            long[] a = meeting(n, r, m);
            if (a == null || a.length == 0) throw no();
            return a[a.length - 1];
        }

        long tree(int d, int s, int j, int c, int a) {
            if (!in(d, 0, 20) || !in(s, 0, 3000) || !in(j, 0, 50) || !in(c, -1000000, 1000000) || !in(a, 0, 999999999)) return 0;
            if (d == days && s == start && j == jump && c == carry && a == agreed) return 0;
            days = d; start = s; jump = j; carry = c; agreed = a;
            return 1;
        }
        boolean node(int d, int u) { return in(d, 0, days) && in(u, 0, d); }
        int nodeRate(int d, int u) { return Math.max(0, Math.min(3000, start + jump * (2 * u - d))); }
        long rate(int d, int u) { return node(d, u) ? nodeRate(d, u) : -1; }
        int pick(int d, int u, List<Integer> among, int m) {
            int best = -1;
            for (int i : among) if (best < 0 || gives(i, d, u, m) > gives(best, d, u, m)) best = i;
            return best;
        }
        long gives(int i, int d, int u, int m) { return invoice(bonds.get(i), m) - pr(bonds.get(i), nodeRate(d, u)); }
        /** Values and acts of all nodes, from the last day (of DAYS, or fixed) back. */
        long[][][] work(List<Integer> among, int m, int last, boolean waitAlone) {
            long[][] v = new long[last + 1][last + 1];
            long[][] a = new long[last + 1][last + 1];
            for (int d = last; d >= 0; d--) {
                for (int u = 0; u <= d; u++) {
                    int p = pick(d, u, among, m);
                    long now = gives(p, d, u, m);
                    v[d][u] = now;
                    a[d][u] = p;
                    if (d < last) {
                        long sum = v[d + 1][u] + v[d + 1][u + 1];
                        long half = sum / 2;
                        if (half * 2 > sum) half--;
                        long waiting = half - carry;
                        if (waitAlone || waiting > now) { v[d][u] = waiting; a[d][u] = -2; }
                    }
                }
            }
            return new long[][][] {v, a};
        }
        long value(int d, int u) {
            if (!node(d, u) || els().isEmpty()) throw no();
            return work(els(), agreed, days, false)[0][d][u];
        }
        long act(int d, int u) {
            if (!node(d, u) || els().isEmpty()) return -1;
            return work(els(), agreed, days, false)[1][d][u];
        }
        long[] walk(int ups, long[][] acts) {
            int u = 0;
            for (int d = 0; ; d++) {
                if (acts[d][u] != -2) return new long[] {d, acts[d][u]};
                if ((ups & 1 << d) != 0) u++;
            }
        }
        long path(int ups, boolean bond) {
            if (els().isEmpty() || ups < 0 || ups >>> days != 0) return -1;
            return walk(ups, work(els(), agreed, days, false)[1])[bond ? 1 : 0];
        }
        long often(int day) {
            if (els().isEmpty() || !in(day, 0, days)) return -1;
            long[][] acts = work(els(), agreed, days, false)[1];
            long n = 0;
            for (int ups = 0; ups < 1 << days; ups++) if (walk(ups, acts)[0] == day) n++;
            return n;
        }
        long fixed(int day) {
            if (els().isEmpty() || !in(day, 0, days)) throw no();
            return work(els(), agreed, day, true)[0][0][0];
        }
        long only(int b) {
            if (!has(b) || !el(b)) throw no();
            return work(List.of(b), agreed, days, false)[0][0][0];
        }
        long without(int b) {
            if (!has(b)) throw no();
            if (!el(b)) return 0;
            List<Integer> others = els();
            others.remove(Integer.valueOf(b));
            if (others.isEmpty()) throw no();
            return work(els(), agreed, days, false)[0][0][0] - work(others, agreed, days, false)[0][0][0];
        }
        long first(int m) { return work(els(), m, days, false)[0][0][0]; }
        long fair() {
            if (els().isEmpty() || first(999999999) < 0) return -1;
            int lo = 0, hi = 999999999;
            while (lo < hi) {
                int mid = (lo + hi) / 2;
                if (first(mid) >= 0) hi = mid; else lo = mid + 1;
            }
            return lo;
        }
    }

    static final String[] NAMES = {"bond", "drop", "alter", "of", "flow", "price", "rateOf", "contract", "count",
        "cheapest", "ranked", "mark", "gap", "switches", "implied", "meet", "cost", "tree", "rate", "value", "act",
        "path", "often", "fixed", "only", "without", "fair"};

    static String askClass(DeliveryBasket x, int c, long[] a) {
        int[] i = new int[a.length];
        for (int k = 0; k < a.length; k++) i[k] = (int) a[k];
        try {
            switch (NAMES[c]) {
                case "bond": return "" + x.bond(i[0], i[1], i[2], i[3], i[4]);
                case "drop": return "" + x.drop(i[0]);
                case "alter": return x.alter(i[0], i[1], i[2]) ? "1" : "0";
                case "of": return "" + x.of(i[0], i[1]);
                case "flow": return "" + x.flow(i[0], i[1]);
                case "price": return "" + x.price(i[0], i[1]);
                case "rateOf": return "" + x.rateOf(i[0], i[1]);
                case "contract": return x.contract(i[0], i[1], i[2]) ? "1" : "0";
                case "count": return "" + x.count(i[0]);
                case "cheapest": return "" + x.cheapest(i[0]);
                case "ranked": return "" + x.ranked(i[0], i[1]);
                case "mark": return "" + x.mark(i[0]);
                case "gap": return "" + x.gap(i[0], i[1]);
                case "switches": return "" + x.switches(i[0], i[1], i[2]);
                case "implied": return "" + x.implied(a[0]);
                case "meet": return "" + x.meet(i[0], i[1], i[2], i[3]);
                case "cost": return "" + x.cost(i[0], i[1], i[2]);
                case "tree": return x.tree(i[0], i[1], i[2], i[3], i[4]) ? "1" : "0";
                case "rate": return "" + x.rate(i[0], i[1]);
                case "value": return "" + x.value(i[0], i[1]);
                case "act": return "" + x.act(i[0], i[1]);
                case "path": return "" + x.path(i[0], i[1] == 1);
                case "often": return "" + x.often(i[0]);
                case "fixed": return "" + x.fixed(i[0]);
                case "only": return "" + x.only(i[0]);
                case "without": return "" + x.without(i[0]);
                default: return "" + x.fair();
            }
        } catch (RuntimeException e) {
            return "throws." + e.getClass().getSimpleName();
        }
    }

    static String askRef(Ref x, int c, long[] a) {
        int[] i = new int[a.length];
        for (int k = 0; k < a.length; k++) i[k] = (int) a[k];
        try {
            switch (NAMES[c]) {
                case "bond": return "" + x.bond(i[0], i[1], i[2], i[3], i[4]);
                case "drop": return "" + x.drop(i[0]);
                case "alter": return "" + x.alter(i[0], i[1], i[2]);
                case "of": return "" + x.of(i[0], i[1]);
                case "flow": return "" + x.flow(i[0], i[1]);
                case "price": return "" + x.price(i[0], i[1]);
                case "rateOf": return "" + x.rateOf(i[0], i[1]);
                case "contract": return "" + x.contract(i[0], i[1], i[2]);
                case "count": return "" + x.count(i[0]);
                case "cheapest": return "" + x.cheapest(i[0]);
                case "ranked": return "" + x.ranked(i[0], i[1]);
                case "mark": return "" + x.mark(i[0]);
                case "gap": return "" + x.gap(i[0], i[1]);
                case "switches": return "" + x.switches(i[0], i[1], i[2]);
                case "implied": return "" + x.implied(a[0]);
                case "meet": return "" + x.meet(i[0], i[1], i[2], i[3]);
                case "cost": return "" + x.cost(i[0], i[1], i[2]);
                case "tree": return "" + x.tree(i[0], i[1], i[2], i[3], i[4]);
                case "rate": return "" + x.rate(i[0], i[1]);
                case "value": return "" + x.value(i[0], i[1]);
                case "act": return "" + x.act(i[0], i[1]);
                case "path": return "" + x.path(i[0], i[1] == 1);
                case "often": return "" + x.often(i[0]);
                case "fixed": return "" + x.fixed(i[0]);
                case "only": return "" + x.only(i[0]);
                case "without": return "" + x.without(i[0]);
                default: return "" + x.fair();
            }
        } catch (NoSuchElementException e) {
            return "throws.NoSuchElementException";
        }
    }

    /** Draws arguments: mostly ones that can be, near what matters; now and then the edges and what lies beyond. */
    static final class Draw {
        final Random random;
        final Ref ref;
        Draw(Random random, Ref ref) { this.random = random; this.ref = ref; }

        int upTo(int n) { return random.nextInt(n); }
        boolean rarely() { return upTo(25) == 0; }
        int from(int a, int b) {
            if (rarely()) return new int[] {a - 1, b + 1, Integer.MIN_VALUE, Integer.MAX_VALUE, -1, -2}[upTo(6)];
            if (upTo(6) == 0) return upTo(2) == 0 ? a : b;
            return a + upTo(b - a + 1);
        }
        int bond() { return rarely() || ref.bonds.isEmpty() ? from(-1, 8) : upTo(ref.bonds.size()); }
        int rate() { return upTo(3) == 0 ? from(0, 3000) : Math.max(0, Math.min(3000, ref.notional + upTo(401) - 200)); }
        int mark() {
            if (upTo(4) == 0) return from(0, 999999999);
            long near = ref.mark(upTo(2) == 0 ? ref.start : rate()) + upTo(3) - 1;
            return (int) Math.max(0, Math.min(999999999, near));
        }

        long[] bondArguments() {
            int kind = from(0, 3);
            int coupon = kind == 3 && !rarely() ? 0 : upTo(2) == 0 ? 100 * upTo(12) : from(0, 2000);
            int periods = upTo(2) == 0 ? 1 + upTo(4) : from(1, 40);
            int extra = kind == 1 ? from(1, 100) : kind == 2 ? from(1, Math.max(1, Math.min(40, periods))) : rarely() ? 1 : 0;
            int spread = upTo(2) == 0 ? 0 : from(-200, 200);
            if (!ref.bonds.isEmpty() && upTo(4) == 0) {
                Ref.B b = ref.bonds.get(upTo(ref.bonds.size()));   // one like another, so that costs and prices are alike
                return new long[] {b.kind, b.coupon, b.periods, b.extra, b.spread};
            }
            return new long[] {kind, coupon, periods, extra, spread};
        }

        long[] arguments(String name) {
            switch (name) {
                case "bond": return bondArguments();
                case "drop": case "only": case "without": return new long[] {bond()};
                case "alter": {
                    int what = from(0, 2);
                    int v = what == 0 ? from(-200, 200) : what == 1 ? upTo(2) == 0 ? upTo(5) : from(0, 99) : upTo(5) == 0 ? 1 : from(0, 1) & 1;
                    return new long[] {bond(), what, rarely() ? 2 : v};
                }
                case "of": return new long[] {bond(), from(0, 8)};
                case "flow": {
                    int b = bond();
                    return new long[] {b, from(1, ref.has(b) ? ref.bonds.get(b).periods : 40)};
                }
                case "price": case "gap": return new long[] {bond(), rate()};
                case "rateOf": {
                    int b = bond();
                    long p = ref.price(b, rate()) + upTo(3) - 1;
                    return new long[] {b, upTo(10) == 0 ? random.nextInt() : p};
                }
                case "contract": {
                    int l = upTo(3) == 0 ? from(1, 40) : 1;
                    int m = upTo(3) == 0 ? from(1, 40) : 40;
                    if (l > m && upTo(3) > 0) { int t = l; l = m; m = t; }
                    return new long[] {from(0, 3000), l, m};
                }
                case "count": return new long[] {from(0, 10)};
                case "cheapest": case "mark": return new long[] {rate()};
                case "ranked": return new long[] {rate(), from(0, 7)};
                case "switches": {
                    int a = rate(), b = rate();
                    return new long[] {upTo(8) > 0 ? Math.min(a, b) : a, upTo(8) > 0 ? Math.max(a, b) : b, upTo(2) == 0 ? -1 : from(0, 3)};
                }
                case "implied": {
                    if (upTo(10) == 0) return new long[] {random.nextLong()};
                    return new long[] {ref.mark(rate()) + upTo(3) - 1};
                }
                case "meet": return new long[] {meetNumber(), rate(), mark(), upTo(4) == 0 ? -1 : bond()};
                case "cost": return new long[] {meetNumber(), rate(), mark()};
                case "tree": return treeArguments();
                case "rate": case "value": case "act": {
                    int d = from(0, ref.days);
                    return new long[] {d, from(0, Ref.in(d, 0, 20) ? d : 3)};
                }
                case "path": return new long[] {from(0, (1 << ref.days) - 1), upTo(2)};
                case "often": case "fixed": return new long[] {from(0, ref.days)};
                default: return new long[0];
            }
        }
        int meetNumber() {
            int stocks = (int) ref.count(5);
            return upTo(4) == 0 ? from(0, 200) : upTo(stocks + 2);
        }
        long[] treeArguments() {
            int days = upTo(3) > 0 ? upTo(9) : upTo(12) == 0 ? 20 : from(0, 12);
            int start = rate();
            int jump = from(0, 50);
            int carry = upTo(3) == 0 ? upTo(11) - 5 : upTo(2) == 0 ? upTo(200001) - 100000 : from(-1000000, 1000000);
            long agreed = upTo(2) == 0 ? ref.mark(start) + upTo(2001) - 1000 : mark();
            if (!rarely()) agreed = Math.max(0, Math.min(999999999, agreed));
            if (rarely()) return new long[] {ref.days, ref.start, ref.jump, ref.carry, ref.agreed};
            return new long[] {days, start, jump, carry, (int) agreed};
        }
    }

    /** How often a call is drawn; the ones that change what there is are drawn often enough to fill the basket. */
    static int draw(Random random, int bonds) {
        if (random.nextInt(8) >= bonds + random.nextInt(5)) return 0;
        int c = random.nextInt(NAMES.length);
        if (NAMES[c].equals("drop") && random.nextInt(3) > 0) c = 2;
        return c;
    }

    public static void main(String[] args) {
        int runs = args.length > 0 ? Integer.parseInt(args[0]) : 60;
        long seed = args.length > 1 ? Long.parseLong(args[1]) : 20261118L;
        int wrong = 0;
        int[] asked = new int[NAMES.length];
        for (int run = 0; run < runs && wrong < 20; run++) {
            Random random = new Random(seed + run);
            DeliveryBasket x = new DeliveryBasket();
            Ref ref = new Ref();
            Draw draw = new Draw(random, ref);
            for (int call = 0; call < 512; call++) {
                int c = draw(random, ref.bonds.size());
                long[] a = draw.arguments(NAMES[c]);
                String want = askRef(ref, c, a);
                String got = askClass(x, c, a);
                asked[c]++;
                if (!want.equals(got)) {
                    System.out.println("run " + run + ", call " + call + ": " + NAMES[c] + java.util.Arrays.toString(a) + " answered " + got + ", due is " + want);
                    wrong++;
                    break;
                }
            }
        }
        for (int c = 0; c < asked.length; c++) {
            if (asked[c] == 0) { System.out.println(NAMES[c] + " was never asked"); wrong++; }
        }
        System.out.println(wrong == 0 ? "all answers are as due" : wrong + " runs are not as due");
        if (wrong != 0) System.exit(1);
    }
}
