import java.util.Arrays;
import java.util.NoSuchElementException;

/**
 * A contract that may be met by any of several bonds: what the bonds pay and are worth, which one is
 * the cheapest to deliver, and what the choice of the day and the bond is worth along a tree of rates.
 */
public final class DeliveryBasket {
    public static final int NONE = -1;

    private static final int WAITS = -2;
    private static final int HUNDRED = 100_000_000;
    private static final int WHOLE = 10_000;

    private static final int MOST_BONDS = 8;
    private static final int MOST_COUPON = 2000;
    private static final int MOST_PERIODS = 40;
    private static final int MOST_EXTRA = 100;
    private static final int MOST_SPREAD = 200;
    private static final int MOST_STOCK = 99;
    private static final int MOST_RATE = 3000;
    private static final int MOST_WORTH_RATE = MOST_RATE + MOST_SPREAD;
    private static final int MOST_CONTRACTS = 200;
    private static final int MOST_MARK = 999_999_999;
    private static final int MOST_DAYS = 20;
    private static final int MOST_JUMP = 50;
    private static final int MOST_CARRY = 1_000_000;
    private static final int MOST_LEVELS = 2 * MOST_DAYS + 1;

    /** The first step of a search by halves over all rates, over all marks: twice it, less 1, is beyond the last one. */
    private static final int RATE_STEP = 2048;
    private static final int MARK_STEP = 1 << 29;

    private static final int PLAIN = 0;
    private static final int STEP = 1;
    private static final int SINK = 2;
    private static final int ZERO = 3;

    /** The first size of them are in the basket; the others stand ready to be used again. */
    private final Bond[] bonds = new Bond[MOST_BONDS];
    private int size;

    private int notional = 600;
    private int least = 1;
    private int most = MOST_PERIODS;

    private final Lattice lattice = new Lattice();

    /** Rows by bond that a call fills before it reads them; kept so that no call makes new ones. */
    private final int[] prices = new int[MOST_BONDS];
    private final long[] costs = new long[MOST_BONDS];
    private final int[] taken = new int[MOST_BONDS];

    public DeliveryBasket() {
        for (int i = 0; i < MOST_BONDS; i++) {
            bonds[i] = new Bond();
        }
    }

    // ---- bonds

    public int bond(int kind, int coupon, int periods, int extra, int spread) {
        if (size >= MOST_BONDS || !within(spread, -MOST_SPREAD, MOST_SPREAD)
                || !canBe(kind, coupon, periods, extra)) {
            return NONE;
        }
        Bond come = bonds[size];
        come.become(kind, coupon, periods, extra, spread);
        come.factorBy(notional);
        size++;
        return size - 1;
    }

    public int drop(int bond) {
        if (!has(bond)) {
            return NONE;
        }
        Bond gone = bonds[bond];
        for (int i = bond; i + 1 < size; i++) {
            bonds[i] = bonds[i + 1];
        }
        size--;
        bonds[size] = gone;
        return size;
    }

    public boolean alter(int bond, int what, int v) {
        if (!has(bond)) {
            return false;
        }
        Bond altered = bonds[bond];
        switch (what) {
            case 0:
                return altered.changeSpread(v);
            case 1:
                return altered.changeStock(v);
            case 2:
                return altered.changeBarred(v);
            default:
                return false;
        }
    }

    public int of(int bond, int what) throws NoSuchElementException {
        if (!has(bond)) {
            throw new NoSuchElementException("no such bond");
        }
        Bond asked = bonds[bond];
        switch (what) {
            case 0:
                return asked.kind;
            case 1:
                return asked.coupon;
            case 2:
                return asked.periods;
            case 3:
                return asked.extra;
            case 4:
                return asked.spread;
            case 5:
                return asked.stock;
            case 6:
                return asked.barred;
            case 7:
                return asked.factor;
            case 8:
                return isEligible(bond) ? 1 : 0;
            default:
                throw new NoSuchElementException("no such what");
        }
    }

    public int flow(int bond, int period) {
        if (!has(bond) || !within(period, 1, bonds[bond].periods)) {
            return NONE;
        }
        return bonds[bond].flows[period];
    }

    public int price(int bond, int rate) {
        if (!has(bond) || !isRate(rate)) {
            return NONE;
        }
        return bonds[bond].priceAt(rate);
    }

    public int rateOf(int bond, int p) {
        if (!has(bond)) {
            return NONE;
        }
        // A price never rises with the rate, so the rates that are too dear come first.
        int dear = -1;
        for (int step = RATE_STEP; step > 0; step /= 2) {
            if (dear + step <= MOST_RATE && bonds[bond].priceAt(dear + step) > p) {
                dear += step;
            }
        }
        return dear == MOST_RATE ? NONE : dear + 1;
    }

    // ---- the contract

    public boolean contract(int notional, int least, int most) {
        if (!isRate(notional) || least < 1 || most > MOST_PERIODS || least > most) {
            return false;
        }
        if (notional == this.notional && least == this.least && most == this.most) {
            return false;
        }
        this.notional = notional;
        this.least = least;
        this.most = most;
        for (int i = 0; i < size; i++) {
            bonds[i].factorBy(notional);
        }
        return true;
    }

    public int count(int what) {
        switch (what) {
            case 0:
                return size;
            case 1:
                return eligibleBits();
            case 2:
                return notional;
            case 3:
                return least;
            case 4:
                return most;
            case 5:
                return eligibleStock();
            case 6:
                return lattice.days;
            case 7:
                return lattice.start;
            case 8:
                return lattice.jump;
            case 9:
                return lattice.carry;
            case 10:
                return lattice.agreed;
            default:
                return NONE;
        }
    }

    public int cheapest(int rate) {
        return isRate(rate) ? cheapestAt(rate, eligibleBits()) : NONE;
    }

    public int ranked(int rate, int k) {
        if (!isRate(rate)) {
            return NONE;
        }
        int bits = eligibleBits();
        layPrices(rate, bits);
        for (int i = 0; i < size; i++) {
            if (isIn(bits, i) && howManyAhead(i, bits) == k) {
                return i;
            }
        }
        return NONE;
    }

    public long mark(int rate) {
        return isRate(rate) ? markAt(rate, eligibleBits()) : NONE;
    }

    public long gap(int bond, int rate) throws NoSuchElementException {
        if (!has(bond) || !isEligible(bond) || !isRate(rate)) {
            throw new NoSuchElementException("no such eligible bond or rate");
        }
        long mark = markAt(rate, eligibleBits());
        return bonds[bond].priceAt(rate) - bonds[bond].invoiceBy(mark);
    }

    public int switches(int from, int to, int k) {
        int bits = eligibleBits();
        if (!isRate(from) || !isRate(to) || from > to || k < NONE || bits == 0) {
            return NONE;
        }
        keepWorths(bits);
        int found = 0;
        int before = cheapestAt(from, bits);
        for (int rate = from + 1; rate <= to; rate++) {
            int here = cheapestAt(rate, bits);
            if (here != before) {
                if (found == k) {
                    return rate;
                }
                found++;
            }
            before = here;
        }
        return k == NONE ? found : NONE;
    }

    public int implied(long m) {
        int bits = eligibleBits();
        if (bits == 0) {
            return NONE;
        }
        // The mark is the least of what never rises with the rate, so it never rises either.
        int dear = -1;
        for (int step = RATE_STEP; step > 0; step /= 2) {
            if (dear + step <= MOST_RATE && markAt(dear + step, bits) > m) {
                dear += step;
            }
        }
        return dear == MOST_RATE ? NONE : dear + 1;
    }

    public int meet(int n, int rate, int m, int bond) {
        if (!canAsk(n, rate, m) || bond != NONE && !has(bond)) {
            return NONE;
        }
        boolean met = takeCheapest(n, rate, m);
        if (bond == NONE) {
            return met ? 1 : 0;
        }
        return met ? taken[bond] : NONE;
    }

    public long cost(int n, int rate, int m) throws NoSuchElementException {
        if (!canAsk(n, rate, m) || !takeCheapest(n, rate, m)) {
            throw new NoSuchElementException("these contracts can't be met");
        }
        long together = 0;
        for (int i = 0; i < size; i++) {
            if (taken[i] > 0) {
                together += taken[i] * costs[i];
            }
        }
        return together;
    }

    // ---- the choice of the day and the bond

    public boolean tree(int days, int start, int jump, int carry, int agreed) {
        if (!within(days, 0, MOST_DAYS) || !isRate(start) || !within(jump, 0, MOST_JUMP)
                || !within(carry, -MOST_CARRY, MOST_CARRY) || !within(agreed, 0, MOST_MARK)) {
            return false;
        }
        return lattice.change(days, start, jump, carry, agreed);
    }

    public int rate(int d, int u) {
        return lattice.hasNode(d, u) ? lattice.rateAt(lattice.level(d, u)) : NONE;
    }

    public long value(int d, int u) throws NoSuchElementException {
        int bits = eligibleBits();
        if (!lattice.hasNode(d, u) || bits == 0) {
            throw new NoSuchElementException("no such node, or none is eligible");
        }
        valueBy(bits);
        return lattice.values[d][u];
    }

    public int act(int d, int u) {
        int bits = eligibleBits();
        if (!lattice.hasNode(d, u) || bits == 0) {
            return NONE;
        }
        valueBy(bits);
        return lattice.acts[d][u];
    }

    public int path(int ups, boolean bond) {
        int bits = eligibleBits();
        if (!within(ups, 0, (1 << lattice.days) - 1) || bits == 0) {
            return NONE;
        }
        valueBy(bits);
        int u = 0;
        for (int d = 0; d <= lattice.days; d++) {
            int act = lattice.acts[d][u];
            if (act != WAITS) {
                return bond ? act : d;
            }
            u += ups >> d & 1;
        }
        return NONE;
    }

    public int often(int day) {
        int bits = eligibleBits();
        if (!lattice.hasDay(day) || bits == 0) {
            return NONE;
        }
        valueBy(bits);
        return lattice.pathsThatEndOn(day);
    }

    public long fixed(int day) throws NoSuchElementException {
        int bits = eligibleBits();
        if (!lattice.hasDay(day) || bits == 0) {
            throw new NoSuchElementException("no such day, or none is eligible");
        }
        lattice.layPrices(bonds, size);
        lattice.layNow(bonds, bits, lattice.agreed);
        return lattice.rollBack(day, false);
    }

    public long only(int bond) throws NoSuchElementException {
        if (!has(bond) || !isEligible(bond)) {
            throw new NoSuchElementException("it is not eligible");
        }
        return valueBy(1 << bond);
    }

    public long without(int bond) throws NoSuchElementException {
        if (!has(bond)) {
            throw new NoSuchElementException("no such bond");
        }
        if (!isEligible(bond)) {
            return 0;
        }
        int bits = eligibleBits();
        int others = bits & ~(1 << bond);
        if (others == 0) {
            throw new NoSuchElementException("no other one is eligible");
        }
        return valueBy(bits) - valueBy(others);
    }

    public int fair() {
        int bits = eligibleBits();
        if (bits == 0) {
            return NONE;
        }
        lattice.layPrices(bonds, size);
        // The value never falls as the mark agreed rises, so the marks that are too low come first.
        int low = -1;
        for (int step = MARK_STEP; step > 0; step /= 2) {
            if (low + step <= MOST_MARK) {
                lattice.layNow(bonds, bits, low + step);
                if (lattice.rollBack(lattice.days, true) < 0) {
                    low += step;
                }
            }
        }
        return low == MOST_MARK ? NONE : low + 1;
    }

    // ---- what the calls share

    private static boolean within(int number, int from, int to) {
        return number >= from && number <= to;
    }

    private static boolean isRate(int number) {
        return within(number, 0, MOST_RATE);
    }

    private static boolean isIn(int bits, int i) {
        return (bits >> i & 1) == 1;
    }

    private static boolean canBe(int kind, int coupon, int periods, int extra) {
        if (!within(coupon, 0, MOST_COUPON) || !within(periods, 1, MOST_PERIODS)) {
            return false;
        }
        switch (kind) {
            case PLAIN:
                return extra == 0;
            case STEP:
                return within(extra, 1, MOST_EXTRA);
            case SINK:
                return within(extra, 1, periods);
            case ZERO:
                return extra == 0 && coupon == 0;
            default:
                return false;
        }
    }

    private boolean has(int bond) {
        return within(bond, 0, size - 1);
    }

    private boolean isEligible(int i) {
        Bond bond = bonds[i];
        return bond.barred == 0 && within(bond.periods, least, most) && bond.factor > 0;
    }

    private int eligibleBits() {
        int bits = 0;
        for (int i = 0; i < size; i++) {
            if (isEligible(i)) {
                bits |= 1 << i;
            }
        }
        return bits;
    }

    private int eligibleStock() {
        int together = 0;
        for (int i = 0; i < size; i++) {
            if (isEligible(i)) {
                together += bonds[i].stock;
            }
        }
        return together;
    }

    private void keepWorths(int bits) {
        for (int i = 0; i < size; i++) {
            if (isIn(bits, i)) {
                bonds[i].keepWorths();
            }
        }
    }

    private void layPrices(int rate, int bits) {
        for (int i = 0; i < size; i++) {
            if (isIn(bits, i)) {
                prices[i] = bonds[i].priceAt(rate);
            }
        }
    }

    /** By the prices that are laid: whether i comes ahead of j; fractions are compared across, so exactly. */
    private boolean comesAhead(int i, int j) {
        long ofFirst = (long) prices[i] * bonds[j].factor;
        long ofSecond = (long) prices[j] * bonds[i].factor;
        return ofFirst < ofSecond || ofFirst == ofSecond && i < j;
    }

    private int howManyAhead(int i, int bits) {
        int ahead = 0;
        for (int j = 0; j < size; j++) {
            if (isIn(bits, j) && comesAhead(j, i)) {
                ahead++;
            }
        }
        return ahead;
    }

    private int cheapestAt(int rate, int bits) {
        layPrices(rate, bits);
        int best = NONE;
        for (int i = 0; i < size; i++) {
            if (isIn(bits, i) && (best == NONE || comesAhead(i, best))) {
                best = i;
            }
        }
        return best;
    }

    private long markAt(int rate, int bits) {
        int best = cheapestAt(rate, bits);
        if (best == NONE || bonds[best].factor <= 0) {
            return NONE;
        }
        return (long) prices[best] * WHOLE / bonds[best].factor;
    }

    private static boolean canAsk(int n, int rate, int m) {
        return within(n, 0, MOST_CONTRACTS) && isRate(rate) && within(m, 0, MOST_MARK);
    }

    /** Takes from the stocks, the least cost first, and says whether that was enough. */
    private boolean takeCheapest(int n, int rate, int m) {
        int open = eligibleBits();
        Arrays.fill(taken, 0);
        for (int i = 0; i < size; i++) {
            costs[i] = bonds[i].priceAt(rate) - bonds[i].invoiceBy(m);
        }
        int left = n;
        for (int turn = 0; turn < size && open != 0; turn++) {
            int next = leastCost(open);
            if (next != NONE) {
                taken[next] = Math.min(left, bonds[next].stock);
                left -= taken[next];
                open &= ~(1 << next);
            }
        }
        return left == 0;
    }

    private int leastCost(int open) {
        int best = NONE;
        for (int i = 0; i < size; i++) {
            if (isIn(open, i) && (best == NONE || costs[i] < costs[best])) {
                best = i;
            }
        }
        return best;
    }

    /** Works the tree out as if the bonds of these bits alone were eligible: the value of its first node. */
    private long valueBy(int bits) {
        lattice.layPrices(bonds, size);
        lattice.layNow(bonds, bits, lattice.agreed);
        return lattice.rollBack(lattice.days, true);
    }

    private static final class Bond {
        int kind;
        int coupon;
        int periods;
        int extra;
        int spread;
        int stock;
        int barred;
        int factor;

        /** By period; the one at 0 is not used. */
        final int[] flows = new int[MOST_PERIODS + 1];

        /** By rate, 0 where it is not known yet; null until a call looks at so many rates that it pays. */
        private int[] worths;

        void become(int kind, int coupon, int periods, int extra, int spread) {
            this.kind = kind;
            this.coupon = coupon;
            this.periods = periods;
            this.extra = extra;
            this.spread = spread;
            stock = 0;
            barred = 0;
            layFlows();
            if (worths != null) {
                Arrays.fill(worths, 0);
            }
        }

        private void layFlows() {
            int owed = HUNDRED;
            for (int period = 1; period <= periods && period < flows.length; period++) {
                int back = paidBack(period, owed);
                flows[period] = (int) ((long) couponIn(period) * owed / WHOLE) + back;
                owed -= back;
            }
        }

        private int couponIn(int period) {
            return kind == STEP ? coupon + extra * (period - 1) : coupon;
        }

        private int paidBack(int period, int owed) {
            if (period == periods) {
                return owed;
            }
            if (kind == SINK && extra > 0 && period > periods - extra) {
                return HUNDRED / extra;
            }
            return 0;
        }

        boolean changeSpread(int v) {
            if (v == spread || !within(v, -MOST_SPREAD, MOST_SPREAD)) {
                return false;
            }
            spread = v;
            return true;
        }

        boolean changeStock(int v) {
            if (v == stock || !within(v, 0, MOST_STOCK)) {
                return false;
            }
            stock = v;
            return true;
        }

        boolean changeBarred(int v) {
            if (v == barred || !within(v, 0, 1)) {
                return false;
            }
            barred = v;
            return true;
        }

        void factorBy(int notional) {
            factor = worthAt(notional) / WHOLE;
        }

        int priceAt(int rate) {
            return worthAt(Math.max(0, rate + spread));
        }

        long invoiceBy(long mark) {
            return mark * factor / WHOLE;
        }

        void keepWorths() {
            if (worths == null) {
                worths = new int[MOST_WORTH_RATE + 1];
            }
        }

        private int worthAt(int rate) {
            if (worths == null || !within(rate, 0, MOST_WORTH_RATE)) {
                return discounted(rate);
            }
            if (worths[rate] == 0) {
                worths[rate] = discounted(rate);
            }
            return worths[rate];
        }

        private int discounted(int rate) {
            int by = WHOLE + rate;
            if (by <= 0) {
                return 0;
            }
            long worth = 0;
            for (int period = periods; period >= 1; period--) {
                worth = (worth + flows[period]) * WHOLE / by;
            }
            return (int) worth;
        }
    }

    /**
     * The tree. The rate of a node depends only on how far it lies above or below the start, its level:
     * so what the bonds are worth, and what delivering gives, is laid by level, not by node.
     */
    private static final class Lattice {
        int days;
        int start = 600;
        int jump = 10;
        int carry;
        int agreed = HUNDRED;

        /** By day and ups; right after rollBack alone. */
        final long[][] values = new long[MOST_DAYS + 1][MOST_DAYS + 1];
        final int[][] acts = new int[MOST_DAYS + 1][MOST_DAYS + 1];

        private final int[][] levelPrices = new int[MOST_LEVELS][MOST_BONDS];
        private final long[] levelNow = new long[MOST_LEVELS];
        private final int[] levelPick = new int[MOST_LEVELS];
        private final long[] invoices = new long[MOST_BONDS];
        private final int[] ways = new int[MOST_DAYS + 2];

        boolean change(int days, int start, int jump, int carry, int agreed) {
            if (days == this.days && start == this.start && jump == this.jump
                    && carry == this.carry && agreed == this.agreed) {
                return false;
            }
            this.days = days;
            this.start = start;
            this.jump = jump;
            this.carry = carry;
            this.agreed = agreed;
            return true;
        }

        boolean hasDay(int d) {
            return within(d, 0, days);
        }

        boolean hasNode(int d, int u) {
            return hasDay(d) && within(u, 0, d);
        }

        int level(int d, int u) {
            return days + 2 * u - d;
        }

        int rateAt(int level) {
            return Math.max(0, Math.min(MOST_RATE, start + jump * (level - days)));
        }

        void layPrices(Bond[] bonds, int size) {
            for (int level = 0; level <= 2 * days; level++) {
                int rate = rateAt(level);
                for (int i = 0; i < size; i++) {
                    levelPrices[level][i] = bonds[i].priceAt(rate);
                }
            }
        }

        /** What delivering gives on each level, and by which bond, of those of the bits. */
        void layNow(Bond[] bonds, int bits, int mark) {
            for (int i = 0; i < MOST_BONDS; i++) {
                if (isIn(bits, i)) {
                    invoices[i] = bonds[i].invoiceBy(mark);
                }
            }
            for (int level = 0; level <= 2 * days; level++) {
                int pick = bestOn(level, bits);
                levelPick[level] = pick;
                levelNow[level] = pick == NONE ? 0 : invoices[pick] - levelPrices[level][pick];
            }
        }

        private int bestOn(int level, int bits) {
            int best = NONE;
            long most = 0;
            for (int i = 0; i < MOST_BONDS; i++) {
                if (isIn(bits, i)) {
                    long gives = invoices[i] - levelPrices[level][i];
                    if (best == NONE || gives > most) {
                        best = i;
                        most = gives;
                    }
                }
            }
            return best;
        }

        /** From a last day back to the first node, whose value it answers; ahead of that day it may deliver or not. */
        long rollBack(int last, boolean mayDeliver) {
            for (int u = 0; u <= last; u++) {
                deliverAt(last, u);
            }
            for (int d = last - 1; d >= 0; d--) {
                for (int u = 0; u <= d; u++) {
                    long waiting = Math.floorDiv(values[d + 1][u] + values[d + 1][u + 1], 2L) - carry;
                    if (mayDeliver && levelNow[level(d, u)] >= waiting) {
                        deliverAt(d, u);
                    } else {
                        values[d][u] = waiting;
                        acts[d][u] = WAITS;
                    }
                }
            }
            return values[0][0];
        }

        private void deliverAt(int d, int u) {
            int level = level(d, u);
            values[d][u] = levelNow[level];
            acts[d][u] = levelPick[level];
        }

        /** After rollBack: on how many paths it delivers on a day and on none ahead of it. */
        int pathsThatEndOn(int day) {
            Arrays.fill(ways, 0);
            ways[0] = 1;
            for (int d = 0; d < day; d++) {
                // From the top down, so that each node's ways are read before they are added to.
                for (int u = d; u >= 0; u--) {
                    if (acts[d][u] != WAITS) {
                        ways[u] = 0;
                    }
                    ways[u + 1] += ways[u];
                }
            }
            int ending = 0;
            for (int u = 0; u <= day; u++) {
                if (acts[day][u] != WAITS) {
                    ending += ways[u];
                }
            }
            return ending << days - day;
        }
    }
}
