import java.util.NoSuchElementException;

/** The sentences of the document's 'Terms' that name a bound or an edge, each with a test of its own. */
public final class TermEdgeTest {
    private static final int NONE = DeliveryBasket.NONE;
    private static final int HUNDRED = 100000000;
    private static final int LOW = Integer.MIN_VALUE;
    private static final int HIGH = Integer.MAX_VALUE;
    private static final int PLAIN = 0;
    private static final int STEP = 1;
    private static final int SINK = 2;
    private static final int ZERO = 3;
    private static int wrong = 0;
    private static String sentence = "";

    private interface Call { long answer(); }

    private static void due(String what, long got, long want) {
        if (got != want) {
            wrong++;
            System.out.println(sentence + ": " + what + " answered " + got + ", due is " + want);
        }
    }
    private static void due(String what, boolean got, boolean want) { due(what, got ? 1 : 0, want ? 1 : 0); }
    private static void none(String what, Call asked) {
        String got;
        try {
            got = "" + asked.answer();
        } catch (RuntimeException e) {
            if (e.getClass() == NoSuchElementException.class) return;
            got = "" + e;
        }
        wrong++;
        System.out.println(sentence + ": " + what + " answered " + got + ", due is a NoSuchElementException");
    }

    private static DeliveryBasket of(int[]... bonds) {
        DeliveryBasket x = new DeliveryBasket();
        for (int[] b : bonds) x.bond(b[0], b[1], b[2], b[3], b[4]);
        return x;
    }
    private static DeliveryBasket zeros(int... periods) {
        DeliveryBasket x = new DeliveryBasket();
        for (int p : periods) x.bond(ZERO, 0, p, 0, 0);
        return x;
    }
    /** Whether such a bond comes to a basket that is empty. */
    private static void comes(boolean due, int kind, int coupon, int periods, int extra, int spread) {
        String call = "bond(" + kind + ", " + coupon + ", " + periods + ", " + extra + ", " + spread + ")";
        DeliveryBasket x = new DeliveryBasket();
        due(call, x.bond(kind, coupon, periods, extra, spread), due ? 0 : NONE);
        due(call + ", then count(0)", x.count(0), due ? 1 : 0);
    }
    private static int leastExtra(int kind) { return kind == STEP || kind == SINK ? 1 : 0; }

    // ---- term 1

    private static void atMostEightBonds() {
        sentence = "BONDS, at most 8, numbered from 0 on";
        DeliveryBasket x = new DeliveryBasket();
        for (int i = 0; i < 8; i++) due("one more", x.bond(ZERO, 0, i + 1, 0, 0), i);
        for (int kind = 0; kind < 4; kind++) due("a ninth of kind " + kind, x.bond(kind, 0, 1, leastExtra(kind), 0), NONE);
        due("how many", x.count(0), 8);
        for (int i = 0; i < 8; i++) due("periods of " + i, x.of(i, 2), i + 1);
        x.drop(0);
        due("after one is gone", x.bond(ZERO, 0, 40, 0, 0), 7);
        due("its periods", x.of(7, 2), 40);
        due("a ninth again", x.bond(ZERO, 0, 40, 0, 0), NONE);
    }

    private static void ofAHundred() {
        sentence = "of 100,000,000 (HUNDRED) each";
        for (int kind = 0; kind < 4; kind++) due("kind " + kind, of(new int[] {kind, 0, 1, leastExtra(kind), 0}).price(0, 0), HUNDRED);
    }

    private static void periodsFromOneToForty() {
        sentence = "PERIODS, 1 to 40";
        for (int kind = 0; kind < 4; kind++) {
            for (int periods : new int[] {1, 2, 39, 40}) comes(true, kind, 0, periods, leastExtra(kind), 0);
            for (int periods : new int[] {0, -1, 41, 42, LOW, HIGH}) comes(false, kind, 0, periods, leastExtra(kind), 0);
        }
    }

    private static void couponFromNoneToTwoThousand() {
        sentence = "COUPON, 0 to 2000";
        for (int kind = PLAIN; kind <= SINK; kind++) {
            for (int coupon : new int[] {0, 1, 1999, 2000}) comes(true, kind, coupon, 5, leastExtra(kind), 0);
            for (int coupon : new int[] {-1, -2, 2001, 2002, LOW, HIGH}) comes(false, kind, coupon, 5, leastExtra(kind), 0);
        }
    }

    private static void fourKinds() {
        sentence = "KIND";
        for (int kind = 0; kind < 4; kind++) comes(true, kind, 0, 1, leastExtra(kind), 0);
        for (int kind : new int[] {-1, -2, 4, 5, LOW, HIGH}) {
            comes(false, kind, 0, 1, 0, 0);
            comes(false, kind, 0, 1, 1, 0);
        }
    }

    private static void extraOfAPlainOne() {
        sentence = "PLAIN (EXTRA 0)";
        comes(true, PLAIN, 500, 5, 0, 0);
        for (int extra : new int[] {-1, 1, 5, LOW, HIGH}) comes(false, PLAIN, 500, 5, extra, 0);
    }

    private static void extraOfAStep() {
        sentence = "STEP (EXTRA 1 to 100)";
        for (int periods : new int[] {1, 5, 40}) {
            for (int extra : new int[] {1, 2, 99, 100}) comes(true, STEP, 2000, periods, extra, 0);
            for (int extra : new int[] {0, -1, 101, 102, LOW, HIGH}) comes(false, STEP, 0, periods, extra, 0);
        }
    }

    private static void extraOfASink() {
        sentence = "SINK (EXTRA 1 to PERIODS)";
        for (int periods = 1; periods <= 40; periods++) {
            comes(true, SINK, 500, periods, 1, 0);
            comes(true, SINK, 500, periods, periods, 0);
            for (int extra : new int[] {0, -1, periods + 1, 101, LOW, HIGH}) comes(false, SINK, 500, periods, extra, 0);
        }
        comes(false, SINK, 0, 0, 0, 0);
    }

    private static void extraAndCouponOfAZero() {
        sentence = "ZERO (EXTRA 0, COUPON 0)";
        comes(true, ZERO, 0, 5, 0, 0);
        for (int extra : new int[] {-1, 1, 5, LOW, HIGH}) comes(false, ZERO, 0, 5, extra, 0);
        for (int coupon : new int[] {-1, 1, 2000, LOW, HIGH}) comes(false, ZERO, coupon, 5, 0, 0);
    }

    private static void spreadOfTwoHundredEitherWay() {
        sentence = "SPREAD, -200 to 200";
        for (int kind = 0; kind < 4; kind++) {
            for (int spread : new int[] {-200, -199, 0, 199, 200}) comes(true, kind, 0, 1, leastExtra(kind), spread);
            for (int spread : new int[] {-201, -202, 201, 202, LOW, HIGH}) comes(false, kind, 0, 1, leastExtra(kind), spread);
        }
        DeliveryBasket x = zeros(1);
        for (int spread : new int[] {-200, 200, -199, 199, 0}) due("alter to " + spread, x.alter(0, 0, spread), true);
        for (int spread : new int[] {-201, 201, LOW, HIGH}) due("alter to " + spread, x.alter(0, 0, spread), false);
        due("it stays", x.of(0, 4), 0);
    }

    private static void flowsAre(String what, DeliveryBasket x, int... want) {
        for (int t = 0; t < want.length; t++) due(what + ", flow " + (t + 1), x.flow(0, t + 1), want[t]);
        due(what + ", flow behind the last", x.flow(0, want.length + 1), NONE);
    }

    private static void plainFlows() {
        sentence = "PLAIN: COUPON each PERIOD, HUNDRED with the last";
        flowsAre("one period", of(new int[] {PLAIN, 2000, 1, 0, 0}), 120000000);
        flowsAre("two", of(new int[] {PLAIN, 1, 2, 0, 0}), 10000, 100010000);
        flowsAre("no coupon", of(new int[] {PLAIN, 0, 3, 0, 0}), 0, 0, HUNDRED);
        DeliveryBasket x = of(new int[] {PLAIN, 2000, 40, 0, 0});
        for (int t = 1; t < 40; t++) due("of forty, flow " + t, x.flow(0, t), 20000000);
        due("of forty, the last", x.flow(0, 40), 120000000);
    }

    private static void stepFlows() {
        sentence = "STEP: the COUPON of the first PERIOD, each PERIOD's EXTRA more than that of the one ahead";
        flowsAre("one period", of(new int[] {STEP, 300, 1, 100, 0}), 103000000);
        flowsAre("three", of(new int[] {STEP, 300, 3, 1, 0}), 3000000, 3010000, 103020000);
        flowsAre("from 0 on", of(new int[] {STEP, 0, 3, 100, 0}), 0, 1000000, 102000000);
        DeliveryBasket x = of(new int[] {STEP, 2000, 40, 100, 0});
        for (int t = 1; t < 40; t++) due("beyond 2000, flow " + t, x.flow(0, t), 20000000 + 1000000 * (t - 1));
        due("the greatest flow", x.flow(0, 40), 159000000);
    }

    private static void sinkParts() {
        sentence = "SINK: the last EXTRA PERIODS pay back a part, rounded down, the last one all that is left";
        for (int periods : new int[] {1, 2, 7, 39, 40}) {
            for (int extra = 1; extra <= periods; extra++) {
                DeliveryBasket x = of(new int[] {SINK, 0, periods, extra, 0});
                String what = extra + " of " + periods;
                for (int t = 1; t <= periods - extra; t++) due(what + ", ahead of the parts", x.flow(0, t), 0);
                for (int t = periods - extra + 1; t < periods; t++) due(what + ", a part", x.flow(0, t), HUNDRED / extra);
                due(what + ", the last", x.flow(0, periods), HUNDRED - (extra - 1) * (HUNDRED / extra));
            }
        }
    }

    private static void sinkCoupons() {
        sentence = "SINK: COUPON of what was not paid back ahead of that PERIOD, rounded down";
        flowsAre("one period", of(new int[] {SINK, 2000, 1, 1, 0}), 120000000);
        flowsAre("one part", of(new int[] {SINK, 500, 2, 1, 0}), 5000000, 105000000);
        flowsAre("three parts of four", of(new int[] {SINK, 1000, 4, 3, 0}), 10000000, 43333333, 39999999, 36666667);
        flowsAre("all of three", of(new int[] {SINK, 1, 3, 3, 0}), 10000 + 33333333, 6666 + 33333333, 3333 + 33333334);
        DeliveryBasket x = of(new int[] {SINK, 2000, 40, 40, 0});
        due("all of forty, the first", x.flow(0, 1), 20000000 + 2500000);
        due("all of forty, the last", x.flow(0, 40), 500000 + 2500000);
    }

    private static void zeroFlows() {
        sentence = "ZERO: HUNDRED with the last";
        flowsAre("one period", zeros(1), HUNDRED);
        flowsAre("three", zeros(3), 0, 0, HUNDRED);
        DeliveryBasket x = zeros(40);
        for (int t = 1; t < 40; t++) due("of forty, flow " + t, x.flow(0, t), 0);
        due("of forty, the last", x.flow(0, 40), HUNDRED);
    }

    private static void periodsFromOneOn() {
        sentence = "FLOW of a PERIOD (numbered from 1 on)";
        for (int periods : new int[] {1, 2, 39, 40}) {
            DeliveryBasket x = zeros(periods);
            due("the last of " + periods, x.flow(0, periods), HUNDRED);
            for (int t : new int[] {0, -1, periods + 1, LOW, HIGH}) due("flow(0, " + t + ") of " + periods, x.flow(0, t), NONE);
        }
    }

    private static void worthIsRoundedDownEachPeriod() {
        sentence = "WORTH: times 10,000, by 10,000 and the rate, rounded down";
        due("one period", zeros(1).price(0, 700), 93457943);
        due("three periods, not rounded at the end alone", zeros(3).price(0, 700), 81629785);
        due("a flow joins ahead of its own period", of(new int[] {PLAIN, 700, 2, 0, 0}).price(0, 700), HUNDRED);
        due("the greatest one", of(new int[] {STEP, 2000, 40, 100, 0}).price(0, 0), 1680000000);
        due("the least one", of(new int[] {ZERO, 0, 40, 0, 200}).price(0, 3000), 1502);
    }

    private static void priceAtRateAndSpread() {
        sentence = "PRICE: at RATE and SPREAD together, 0 at least";
        DeliveryBasket x = of(new int[] {ZERO, 0, 1, 0, -200}, new int[] {ZERO, 0, 1, 0, 200}, new int[] {ZERO, 0, 1, 0, -1});
        for (int rate : new int[] {0, 1, 199, 200}) due("at " + rate + " less 200", x.price(0, rate), HUNDRED);
        due("at 201 less 200", x.price(0, 201), 99990000);
        due("at 0 less 1", x.price(2, 0), HUNDRED);
        due("at 1 less 1", x.price(2, 1), HUNDRED);
        due("at 2 less 1", x.price(2, 2), 99990000);
        due("at 0 and 200", x.price(1, 0), 98039215);
        due("at 3000 and 200, beyond the RATES", x.price(1, 3000), 75757575);
        due("at 2800 and 200", x.price(1, 2800), 76923076);
    }

    /** What each call that takes a rate answers at it; 1 where it takes the rate, 0 where it refuses. */
    private static void rateIs(boolean due, int rate) {
        DeliveryBasket x = zeros(1, 2);
        x.alter(0, 1, 1);
        due("price at " + rate, x.price(0, rate) != NONE, due);
        due("cheapest at " + rate, x.cheapest(rate) != NONE, due);
        due("ranked at " + rate, x.ranked(rate, 1) != NONE, due);
        due("mark at " + rate, x.mark(rate) != NONE, due);
        due("switches from " + rate, x.switches(rate, 3000, NONE) != NONE, due);
        due("switches to " + rate, x.switches(0, rate, NONE) != NONE, due);
        due("switches from and to " + rate, x.switches(rate, rate, NONE) != NONE, due);
        due("meet at " + rate, x.meet(1, rate, 0, NONE) != NONE, due);
        due("meet of a bond at " + rate, x.meet(1, rate, 0, 0) != NONE, due);
        if (due) {
            due("gap at " + rate, x.gap(x.cheapest(rate), rate) <= 1, true);
            due("cost at " + rate, x.cost(1, rate, 0), x.price(0, rate));
        } else {
            none("gap at " + rate, () -> x.gap(0, rate));
            none("cost at " + rate, () -> x.cost(1, rate, 0));
        }
        due("contract by " + rate, x.contract(rate, 1, 40), due);
        due("tree from " + rate, x.tree(1, rate, 1, 1, 1), due);
    }
    private static void rateFromNoneToThreeThousand() {
        sentence = "RATE (0 to 3000)";
        for (int rate : new int[] {0, 1, 2999, 3000}) rateIs(true, rate);
        for (int rate : new int[] {-1, -2, 3001, 3200, LOW, HIGH}) rateIs(false, rate);
    }

    // ---- term 2

    private static void theFirstContract() {
        sentence = "NOTIONAL rate (600 at first), LEAST and MOST (1 and 40 at first)";
        DeliveryBasket x = new DeliveryBasket();
        due("notional", x.count(2), 600);
        due("least", x.count(3), 1);
        due("most", x.count(4), 40);
        due("a bond of 1 period", zeros(1).count(1), 1);
        due("a bond of 40 periods", zeros(40).count(1), 1);
        due("the factor at first", zeros(1).of(0, 7), 9433);
    }

    private static void notionalIsARate() {
        sentence = "NOTIONAL rate, 0 to 3000";
        for (int notional : new int[] {0, 1, 2999, 3000}) {
            DeliveryBasket x = zeros(1);
            due("contract by " + notional, x.contract(notional, 1, 40), true);
            due("it is that", x.count(2), notional);
            due("the factor", x.of(0, 7), 1000000000000L / (10000 + notional) / 10000);
        }
        for (int notional : new int[] {-1, -2, 3001, 3002, LOW, HIGH}) due("contract by " + notional, zeros(1).contract(notional, 1, 40), false);
    }

    private static void leastToMost() {
        sentence = "BONDS from LEAST to MOST PERIODS (PERIODS are 1 to 40; LEAST above MOST can't be)";
        for (int least = -1; least <= 42; least++) {
            for (int most = -1; most <= 42; most++) {
                boolean can = 1 <= least && least <= most && most <= 40;
                due("contract(700, " + least + ", " + most + ")", new DeliveryBasket().contract(700, least, most), can);
            }
        }
        int[][] far = {{LOW, 40}, {1, HIGH}, {LOW, HIGH}, {HIGH, LOW}, {HIGH, HIGH}, {LOW, LOW}};
        for (int[] a : far) due("contract(700, " + a[0] + ", " + a[1] + ")", new DeliveryBasket().contract(700, a[0], a[1]), false);
    }

    private static void eligibleByPeriods() {
        sentence = "ELIGIBLE is a BOND of LEAST to MOST PERIODS";
        for (int periods = 1; periods <= 40; periods++) {
            for (int at = Math.max(1, periods - 1); at <= Math.min(40, periods + 1); at++) {
                DeliveryBasket x = zeros(periods);
                x.contract(0, at, at);
                due(periods + " periods, just " + at, x.of(0, 8), at == periods ? 1 : 0);
                x.contract(0, at, 40);
                due(periods + " periods, at least " + at, x.of(0, 8), at <= periods ? 1 : 0);
                x.contract(0, 1, at);
                due(periods + " periods, at most " + at, x.of(0, 8), at >= periods ? 1 : 0);
            }
        }
    }

    private static void eligibleByBarred() {
        sentence = "ELIGIBLE is a BOND that is not BARRED (none is at first)";
        DeliveryBasket x = zeros(1, 2, 3, 4, 5, 6, 7, 8);
        for (int b = 0; b < 8; b++) due("barred at first, " + b, x.of(b, 6), 0);
        due("all of eight", x.count(1), 255);
        for (int b = 0; b < 8; b++) {
            x.alter(b, 2, 1);
            due("all but the first " + (b + 1), x.count(1), 255 & ~((2 << b) - 1));
        }
        for (int b = 0; b < 8; b++) {
            x.alter(b, 2, 0);
            due("again the first " + (b + 1), x.count(1), (2 << b) - 1);
        }
    }

    private static void eligibleByFactor() {
        sentence = "ELIGIBLE is a BOND with a FACTOR above 0";
        DeliveryBasket x = zeros(40);
        x.contract(2589, 1, 40);   // worth 10006 there
        due("factor 1", x.of(0, 7), 1);
        due("eligible by factor 1", x.of(0, 8), 1);
        due("cheapest by factor 1", x.cheapest(0), 0);
        x.contract(2590, 1, 40);   // worth 9974 there
        due("factor 0", x.of(0, 7), 0);
        due("eligible by factor 0", x.of(0, 8), 0);
        due("cheapest by factor 0", x.cheapest(0), NONE);
        due("its price", x.price(0, 2590), 9974);
    }

    private static void factorIsRoundedDown() {
        sentence = "FACTOR: WORTH at NOTIONAL (without SPREAD) by 10,000, rounded down";
        due("94,339,622", zeros(1).of(0, 7), 9433);
        DeliveryBasket x = of(new int[] {ZERO, 0, 1, 0, 200});
        due("with a spread of 200", x.of(0, 7), 9433);
        x.alter(0, 0, -200);
        due("with a spread of -200", x.of(0, 7), 9433);
        DeliveryBasket z = of(new int[] {STEP, 2000, 40, 100, 0});
        z.contract(0, 1, 40);
        due("the greatest one", z.of(0, 7), 168000);
    }

    private static void likeBasisPrices() {
        sentence = "CHEAPEST: of like BASIS PRICES the first";
        DeliveryBasket x = zeros(2, 5, 1, 3, 2, 40, 9, 7);
        x.contract(0, 1, 40);
        due("all eight are alike at 0", x.cheapest(0), 0);
        for (int k = 0; k < 8; k++) due("ranked at 0, " + k, x.ranked(0, k), k);
        x.alter(0, 2, 1);
        due("the first is barred", x.cheapest(0), 1);
        due("the longest at 1", x.cheapest(1), 5);
        DeliveryBasket twins = zeros(3, 1, 1, 3);
        int[] order = {1, 2, 0, 3};   // at 0 the one of the greater factor is the cheaper one
        for (int k = 0; k < 4; k++) due("twins ranked, " + k, twins.ranked(0, k), order[k]);
    }

    private static void basisPricesAreFractions() {
        sentence = "BASIS PRICE: PRICE by FACTOR, exactly (a fraction)";
        // 100,990,099 by 9,622 and 103,960,396 by 9,905: times 10,000, rounded down, both are 104,957,492; the second is less.
        DeliveryBasket x = of(new int[] {PLAIN, 200, 1, 0, 0}, new int[] {PLAIN, 500, 1, 0, 0});
        due("the second is less", x.cheapest(100), 1);
        due("ranked, the first", x.ranked(100, 0), 1);
        due("ranked, the second", x.ranked(100, 1), 0);
        due("the mark", x.mark(100), 104957492);
        // 101,898,101 by 9,622 and 104,895,104 by 9,905: likewise 105,901,165; the first is less.
        DeliveryBasket y = of(new int[] {PLAIN, 500, 1, 0, 10}, new int[] {PLAIN, 200, 1, 0, 10});
        due("the other way", y.cheapest(0), 1);
        due("its mark", y.mark(0), 105901165);
    }

    private static void markIsRoundedDown() {
        sentence = "MARK: PRICE of the CHEAPEST times 10,000, by its FACTOR, rounded down";
        DeliveryBasket x = zeros(1);
        due("1,000,000,000,000 by 9,433", x.mark(0), 106010813);
        DeliveryBasket far = zeros(40);
        far.contract(2589, 1, 40);
        due("the greatest one, beyond an int", far.mark(0), 1000000000000L);
        DeliveryBasket small = of(new int[] {PLAIN, 0, 40, 0, 200});
        small.contract(0, 1, 40);
        due("a small one", small.mark(3000), 1502);
    }

    private static void aSwitch() {
        sentence = "A SWITCH: a RATE at which another one is CHEAPEST than at the RATE 1 less";
        DeliveryBasket x = zeros(2, 5);
        x.contract(0, 1, 40);
        due("the first RATE that can be one", x.switches(0, 3000, 0), 1);
        due("no other", x.switches(0, 3000, NONE), 1);
        DeliveryBasket y = of(new int[] {ZERO, 0, 1, 0, 1}, new int[] {ZERO, 0, 2, 0, -1});
        y.contract(2995, 1, 40);
        due("the last RATE that can be one", y.switches(0, 3000, 0), 3000);
        due("no other", y.switches(0, 3000, NONE), 1);
        due("the first again, another one there", y.cheapest(2999) * 10 + y.cheapest(3000), 1);
        DeliveryBasket twins = zeros(4, 4, 4);
        due("like ones are no switch", twins.switches(0, 3000, NONE), 0);
    }

    private static void invoiceIsRoundedDown() {
        sentence = "INVOICE by a MARK m: m times FACTOR by 10,000, rounded down";
        DeliveryBasket x = zeros(1);   // factor 9433
        x.alter(0, 1, 1);
        due("by 0", x.cost(1, 0, 0), HUNDRED);
        due("by 1", x.cost(1, 0, 1), HUNDRED);
        due("by 2", x.cost(1, 0, 2), HUNDRED - 1);
        due("by 10,000", x.cost(1, 0, 10000), HUNDRED - 9433);
        due("by 999,999,999", x.cost(1, 0, 999999999), HUNDRED - 943299999L);
        due("in the gap, by 100,962,678", x.gap(0, 500), 95238095 - 95238094);
    }

    private static void stockFromNoneToNinetyNine() {
        sentence = "STOCK (0 to 99; 0 at first)";
        DeliveryBasket x = zeros(1, 2, 3, 4, 5, 6, 7, 8);
        for (int b = 0; b < 8; b++) due("at first, " + b, x.of(b, 5), 0);
        due("at first, together", x.count(5), 0);
        for (int stock : new int[] {-1, 100, LOW, HIGH}) due("alter to " + stock, x.alter(0, 1, stock), false);
        for (int b = 0; b < 8; b++) due("alter to 99", x.alter(b, 1, 99), true);
        due("as many as there can be", x.count(5), 792);
        due("back to 0", x.alter(0, 1, 0), true);
        due("to 1", x.alter(0, 1, 1), true);
        due("together", x.count(5), 694);
    }

    private static void stocked(DeliveryBasket x, int... stocks) {
        for (int b = 0; b < stocks.length; b++) x.alter(b, 1, stocks[b]);
    }
    private static void meets(String what, DeliveryBasket x, int n, int rate, int m, int... want) {
        for (int b = 0; b < want.length; b++) due(what + ", " + n + " of " + b, x.meet(n, rate, m, b), want[b]);
    }

    private static void likeCosts() {
        sentence = "MEETING: of like costs as many as can be of the first, then of the next";
        DeliveryBasket x = zeros(5, 1, 40, 9, 2, 3, 7, 8);   // by 0, at 0, each costs HUNDRED
        stocked(x, 3, 0, 2, 99, 99, 99, 99, 99);
        meets("all alike", x, 0, 0, 0, 0, 0, 0, 0, 0, 0, 0, 0);
        meets("all alike", x, 3, 0, 0, 3, 0, 0, 0, 0, 0, 0, 0);
        meets("all alike", x, 5, 0, 0, 3, 0, 2, 0, 0, 0, 0, 0);
        meets("all alike", x, 104, 0, 0, 3, 0, 2, 99, 0, 0, 0, 0);
        meets("all alike", x, 200, 0, 0, 3, 0, 2, 99, 96, 0, 0, 0);
        due("what it costs", x.cost(200, 0, 0), 200L * HUNDRED);
        meets("at 1 the longest are the cheapest", x, 4, 1, 0, 0, 0, 2, 2, 0, 0, 0, 0);
    }

    private static void justAsMany() {
        sentence = "MEETING n CONTRACTS: n ELIGIBLE BONDS, of each no more than its STOCK; those that cost least together";
        DeliveryBasket x = zeros(1, 2, 3);
        stocked(x, 1, 99, 99);
        due("no more than n, though each costs less than nothing", x.cost(2, 0, 999999999), 2L * HUNDRED - 943299999L - 889899999L);
        meets("of the cheapest no more than its stock", x, 2, 0, 999999999, 1, 1, 0);
        meets("as many as there are", x, 199, 0, 999999999, 1, 99, 99);
        due("one more than there are", x.meet(200, 0, 999999999, NONE), 0);
        x.alter(0, 1, 2);
        due("as many as can be asked", x.meet(200, 0, 999999999, NONE), 1);
        x.alter(2, 2, 1);
        due("not of a barred one", x.meet(102, 0, 999999999, NONE), 0);
        meets("of the others all", x, 101, 0, 999999999, 2, 99, 0);
    }

    // ---- term 3

    private static void theFirstTree() {
        sentence = "DAYS (0 at first), START (600), JUMP (10), AGREED (HUNDRED at first), CARRY (0 at first)";
        DeliveryBasket x = new DeliveryBasket();
        int[] want = {0, 600, 10, 0, HUNDRED};
        for (int k = 0; k < 5; k++) due("count(" + (k + 6) + ")", x.count(k + 6), want[k]);
        due("it is that", x.tree(0, 600, 10, 0, HUNDRED), false);
        due("a node", x.rate(0, 0), 600);
        due("no other", x.rate(1, 0), NONE);
        x.tree(1, 600, 10, 0, HUNDRED);
        due("one jump", x.rate(1, 1), 610);
        DeliveryBasket z = zeros(1);
        due("by that agreed", z.value(0, 0), 94330000 - 94339622);
    }

    /** The k-th number of the tree has these as its least and its greatest. */
    private static void treeNumber(int k, int least, int most) {
        for (int v : new int[] {least, least + 1, most - 1, most}) {
            int[] a = {1, 2, 3, 4, 5};
            a[k] = v;
            DeliveryBasket x = new DeliveryBasket();
            due("tree by " + v, x.tree(a[0], a[1], a[2], a[3], a[4]), true);
            for (int i = 0; i < 5; i++) due("count(" + (i + 6) + ")", x.count(i + 6), a[i]);
        }
        for (int v : new int[] {least - 1, least - 2, most + 1, most + 2, LOW, HIGH}) {
            int[] a = {1, 2, 3, 4, 5};
            a[k] = v;
            due("tree by " + v, new DeliveryBasket().tree(a[0], a[1], a[2], a[3], a[4]), false);
        }
    }
    private static void daysToTwenty() {
        sentence = "DAYS, 0 to 20";
        treeNumber(0, 0, 20);
    }
    private static void startIsARate() {
        sentence = "START, 0 to 3000";
        treeNumber(1, 0, 3000);
    }
    private static void jumpToFifty() {
        sentence = "JUMP, 0 to 50";
        treeNumber(2, 0, 50);
    }
    private static void carryEitherWay() {
        sentence = "CARRY, -1,000,000 to 1,000,000";
        treeNumber(3, -1000000, 1000000);
    }
    private static void agreedBelowAThousandMillions() {
        sentence = "AGREED, 0 to 999,999,999";
        treeNumber(4, 0, 999999999);
    }

    private static void nodes() {
        sentence = "DAYS, numbered from 0 on; NODE d, u (u 0 to d)";
        for (int days : new int[] {0, 1, 2, 19, 20}) {
            DeliveryBasket x = new DeliveryBasket();
            x.tree(days, 1500, 1, 0, 0);
            for (int d = -1; d <= 21; d++) {
                for (int u = -1; u <= d + 1; u++) {
                    boolean there = 0 <= d && d <= days && 0 <= u && u <= d;
                    due(days + " days, rate(" + d + ", " + u + ")", x.rate(d, u), there ? 1500 + 2 * u - d : NONE);
                }
            }
        }
    }

    private static void nodeRates() {
        sentence = "NODE: RATE START and JUMP times (2 u less d) together, 0 at least, 3000 at most";
        DeliveryBasket x = new DeliveryBasket();
        int[][] want = {   // start, jump, d, u, the rate there
            {100, 50, 1, 0, 50}, {100, 50, 2, 0, 0}, {101, 50, 2, 0, 1}, {99, 50, 2, 0, 0}, {0, 50, 20, 0, 0}, {0, 0, 20, 0, 0},
            {2900, 50, 2, 2, 3000}, {2899, 50, 2, 2, 2999}, {2901, 50, 2, 2, 3000}, {3000, 50, 20, 20, 3000}, {3000, 0, 20, 20, 3000},
            {1000, 50, 20, 0, 0}, {1001, 50, 20, 0, 1}, {2000, 50, 20, 20, 3000}, {1999, 50, 20, 20, 2999},
            {10, 50, 3, 1, 0}, {10, 50, 3, 2, 60}, {10, 50, 2, 1, 10}, {2990, 50, 3, 2, 3000}, {2990, 50, 4, 2, 2990}, {2990, 50, 3, 1, 2940}};
        for (int[] w : want) {
            x.tree(20, w[0], w[1], 0, 0);
            due("start " + w[0] + ", jump " + w[1] + ", rate(" + w[2] + ", " + w[3] + ")", x.rate(w[2], w[3]), w[4]);
        }
        DeliveryBasket z = zeros(1);
        z.tree(20, 0, 50, 0, 0);
        due("what is worked out at 0", z.fixed(0), -HUNDRED);
        due("and at a node that is 0 at least", z.value(20, 0), -HUNDRED);
        z.tree(20, 3000, 50, 0, 0);
        due("and at one that is 3000 at most", z.value(20, 20), -76923076);
    }

    private static void likeNows() {
        sentence = "NOW: the greatest INVOICE less PRICE, of like ones that of the first (that one it DELIVERS)";
        DeliveryBasket x = zeros(5, 1, 40, 9, 2, 3, 7, 8);
        x.tree(0, 0, 0, 0, 0);
        due("all eight are alike", x.act(0, 0), 0);
        due("now", x.value(0, 0), -HUNDRED);
        x.alter(0, 2, 1);
        due("the first is barred", x.act(0, 0), 1);
        x.tree(0, 1, 0, 0, 0);
        due("the greatest is not the first", x.act(0, 0), 2);
        x.alter(2, 2, 1);
        due("the next one", x.act(0, 0), 3);
        DeliveryBasket last = zeros(1, 1, 1, 1, 1, 1, 1, 2);
        last.tree(0, 600, 0, 0, 0);
        due("the greatest is the last", last.act(0, 0), 7);
    }

    private static void valueOnTheLastDay() {
        sentence = "VALUE of a NODE on the last DAY: NOW; it DELIVERS there";
        DeliveryBasket x = zeros(1);
        for (int days : new int[] {0, 1, 20}) {
            x.tree(days, 600, 0, -1000000, HUNDRED);   // waiting always pays
            for (int u = 0; u <= days; u++) {
                due(days + " days, value", x.value(days, u), 94330000 - 94339622);
                due(days + " days, act", x.act(days, u), 0);
            }
            for (int d = 0; d < days; d++) due(days + " days, it waits on " + d, x.act(d, d), -2);
        }
    }

    private static void nowAgainstWaiting() {
        sentence = "VALUE: the greater one of NOW and WAITING; it DELIVERS where NOW is WAITING or more";
        DeliveryBasket x = zeros(1);
        long now = 94330000 - 94339622;
        int[] carries = {1000000, 1, 0, -1, -1000000};
        for (int carry : carries) {
            x.tree(1, 600, 0, carry, HUNDRED);
            due("value by carry " + carry, x.value(0, 0), carry < 0 ? now - carry : now);
            due("act by carry " + carry, x.act(0, 0), carry < 0 ? -2 : 0);
            due("paths by carry " + carry, x.often(0), carry < 0 ? 0 : 2);
        }
    }

    private static void halvesAreRoundedDown() {
        sentence = "WAITING: VALUES together, by 2, rounded down, less CARRY";
        DeliveryBasket x = zeros(1);   // prices at 598 and 602: 94,357,425 and 94,321,826; at 599 and 601: 94,348,523 and 94,330,723
        x.tree(1, 600, 2, 0, 0);
        due("an odd sum below 0", x.fixed(1), -94339626);
        x.tree(1, 600, 1, 0, 0);
        due("an even sum below 0", x.fixed(1), -94339623);
        x.tree(1, 600, 2, 0, 200000000);   // an invoice of 188,660,000
        due("an odd sum above 0", x.fixed(1), 94320374);
        x.tree(1, 600, 2, 7, 0);
        due("carry is taken off after that", x.fixed(1), -94339633);
        x.tree(1, 600, 2, -7, 0);
        due("carry below 0 is put on", x.fixed(1), -94339619);
        due("in the value, too", x.value(0, 0), -94339619);
        x.tree(2, 600, 0, -1, HUNDRED);
        due("carry for each day", x.value(0, 0), 94330000 - 94339622 + 2);
    }

    public static void main(String[] args) {
        atMostEightBonds();
        ofAHundred();
        periodsFromOneToForty();
        couponFromNoneToTwoThousand();
        fourKinds();
        extraOfAPlainOne();
        extraOfAStep();
        extraOfASink();
        extraAndCouponOfAZero();
        spreadOfTwoHundredEitherWay();
        plainFlows();
        stepFlows();
        sinkParts();
        sinkCoupons();
        zeroFlows();
        periodsFromOneOn();
        worthIsRoundedDownEachPeriod();
        priceAtRateAndSpread();
        rateFromNoneToThreeThousand();
        theFirstContract();
        notionalIsARate();
        leastToMost();
        eligibleByPeriods();
        eligibleByBarred();
        eligibleByFactor();
        factorIsRoundedDown();
        likeBasisPrices();
        basisPricesAreFractions();
        markIsRoundedDown();
        aSwitch();
        invoiceIsRoundedDown();
        stockFromNoneToNinetyNine();
        likeCosts();
        justAsMany();
        theFirstTree();
        daysToTwenty();
        startIsARate();
        jumpToFifty();
        carryEitherWay();
        agreedBelowAThousandMillions();
        nodes();
        nodeRates();
        likeNows();
        valueOnTheLastDay();
        nowAgainstWaiting();
        halvesAreRoundedDown();
        System.out.println(wrong == 0 ? "all answers are as due" : wrong + " answers are not as due");
        if (wrong != 0) System.exit(1);
    }
}
