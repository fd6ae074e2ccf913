import java.util.NoSuchElementException;

/** Each promise of the document by hand: ordinary inputs, the edges it names, wrong inputs. */
public final class PromiseTest {
    private static final int NONE = DeliveryBasket.NONE;
    private static final int HUNDRED = 100000000;
    private static final int LOW = Integer.MIN_VALUE;
    private static final int HIGH = Integer.MAX_VALUE;
    private static int wrong = 0;

    private interface Call { long answer(); }

    private static void due(int promise, String call, long got, long want) {
        if (got != want) {
            wrong++;
            System.out.println("promise " + promise + ": " + call + " answered " + got + ", due is " + want);
        }
    }
    private static void due(int promise, String call, boolean got, boolean want) { due(promise, call, got ? 1 : 0, want ? 1 : 0); }
    private static void none(int promise, String call, Call asked) {
        try {
            long got = asked.answer();
            wrong++;
            System.out.println("promise " + promise + ": " + call + " answered " + got + ", due is a NoSuchElementException");
        } catch (RuntimeException e) {
            if (e.getClass() != NoSuchElementException.class) {
                wrong++;
                System.out.println("promise " + promise + ": " + call + " threw " + e + ", due is a NoSuchElementException");
            }
        }
    }

    /** Four bonds, one of each kind; at 600 their factors are 11472, 7472, 8626, 10000. */
    private static DeliveryBasket four() {
        DeliveryBasket x = new DeliveryBasket();
        x.bond(0, 800, 10, 0, 0);
        x.bond(3, 0, 5, 0, 0);
        x.bond(1, 100, 20, 50, 20);
        x.bond(2, 600, 8, 4, -30);
        return x;
    }
    private static DeliveryBasket one(int kind, int coupon, int periods, int extra, int spread) {
        DeliveryBasket x = new DeliveryBasket();
        x.bond(kind, coupon, periods, extra, spread);
        return x;
    }
    /** The one bond is there, but it is not eligible. */
    private static DeliveryBasket barredOne() {
        DeliveryBasket x = one(3, 0, 1, 0, 0);
        x.alter(0, 2, 1);
        return x;
    }

    private static void aNewObject() {
        DeliveryBasket x = new DeliveryBasket();
        long[] first = {0, 0, 600, 1, 40, 0, 0, 600, 10, 0, HUNDRED};
        for (int what = 0; what < first.length; what++) due(1, "count(" + what + ")", x.count(what), first[what]);
        x.bond(3, 0, 1, 0, 0);
        x.tree(3, 100, 1, 1, 1);
        due(1, "another object's bonds", new DeliveryBasket().count(0), 0);
        due(1, "another object's days", new DeliveryBasket().count(6), 0);
    }

    private static void bond() {
        int[][] bad = {{-1, 0, 1, 0, 0}, {4, 0, 1, 0, 0}, {LOW, 0, 1, 0, 0}, {HIGH, 0, 1, 0, 0},
            {0, -1, 1, 0, 0}, {0, 2001, 1, 0, 0}, {0, HIGH, 1, 0, 0}, {0, LOW, 1, 0, 0},
            {0, 5, 0, 0, 0}, {0, 5, 41, 0, 0}, {0, 5, -1, 0, 0}, {0, 5, HIGH, 0, 0}, {0, 5, LOW, 0, 0},
            {0, 5, 5, 1, 0}, {0, 5, 5, -1, 0}, {1, 5, 5, 0, 0}, {1, 5, 5, 101, 0}, {1, 5, 5, -1, 0},
            {2, 5, 5, 0, 0}, {2, 5, 5, 6, 0}, {2, 5, 5, -1, 0}, {2, 5, 40, 41, 0}, {3, 1, 5, 0, 0}, {3, 0, 5, 1, 0},
            {0, 5, 5, 0, -201}, {0, 5, 5, 0, 201}, {0, 5, 5, 0, LOW}, {0, 5, 5, 0, HIGH}};
        DeliveryBasket x = new DeliveryBasket();
        for (int[] b : bad) due(2, "bond" + java.util.Arrays.toString(b), x.bond(b[0], b[1], b[2], b[3], b[4]), NONE);
        due(2, "count(0) after wrong ones", x.count(0), 0);
        int[][] good = {{0, 0, 1, 0, -200}, {0, 2000, 40, 0, 200}, {1, 0, 1, 1, 0}, {1, 2000, 40, 100, 0},
            {2, 2000, 40, 40, 0}, {2, 0, 1, 1, 0}, {3, 0, 40, 0, 0}, {3, 0, 1, 0, 1}};
        for (int i = 0; i < 8; i++) {
            int[] b = good[i];
            due(2, "bond" + java.util.Arrays.toString(b), x.bond(b[0], b[1], b[2], b[3], b[4]), i);
        }
        due(2, "the ninth", x.bond(3, 0, 1, 0, 0), NONE);
        for (int i = 0; i < 8; i++) {
            for (int what = 0; what < 5; what++) due(2, "of(" + i + ", " + what + ")", x.of(i, what), good[i][what]);
            due(2, "its stock", x.of(i, 5), 0);
            due(2, "it is barred", x.of(i, 6), 0);
        }
    }

    private static void drop() {
        DeliveryBasket x = four();
        due(3, "drop of none", new DeliveryBasket().drop(0), NONE);
        due(3, "drop(-1)", x.drop(-1), NONE);
        due(3, "drop(4)", x.drop(4), NONE);
        due(3, "drop(LOW)", x.drop(LOW), NONE);
        due(3, "drop(HIGH)", x.drop(HIGH), NONE);
        x.alter(1, 1, 7);
        x.alter(1, 2, 1);
        x.alter(3, 1, 9);
        x.switches(0, 3000, -1);
        due(3, "drop(1)", x.drop(1), 3);
        due(3, "the first stays", x.of(0, 1), 800);
        due(3, "the next one comes up", x.of(1, 0), 1);
        due(3, "and the one behind it", x.of(2, 0), 2);
        due(3, "with its stock", x.of(2, 5), 9);
        due(3, "and its flows", x.flow(2, 5), 31000000);
        none(3, "of the one that is gone", () -> x.of(3, 0));
        due(3, "a new one is the last", x.bond(3, 0, 2, 0, 0), 3);
        due(3, "a new one has no stock", x.of(3, 5), 0);
        due(3, "a new one is not barred", x.of(3, 6), 0);
        due(3, "a new one has its own price", x.price(3, 500), 90702947);
        due(3, "a new one has its own factor", x.of(3, 7), 8899);
        due(3, "drop of the last one", x.drop(3), 2 + 1);
        due(3, "drop", x.drop(0), 2);
        due(3, "drop", x.drop(0), 1);
        due(3, "drop", x.drop(0), 0);
        due(3, "drop of none", x.drop(0), NONE);
    }

    private static void alter() {
        DeliveryBasket x = four();
        int[][] bad = {{0, 0, -201}, {0, 0, 201}, {0, 0, LOW}, {0, 0, HIGH}, {0, 0, 0}, {3, 0, -30},
            {0, 1, -1}, {0, 1, 100}, {0, 1, LOW}, {0, 1, HIGH}, {0, 1, 0},
            {0, 2, 0}, {0, 2, 2}, {0, 2, -1}, {0, 3, 1}, {0, -1, 1}, {0, LOW, 1}, {0, HIGH, 1},
            {-1, 0, 5}, {4, 0, 5}, {LOW, 1, 5}, {HIGH, 1, 5}, {-1, 2, 1}, {4, 2, 1}};
        for (int[] a : bad) due(4, "alter" + java.util.Arrays.toString(a), x.alter(a[0], a[1], a[2]), false);
        for (int i = 0; i < 4; i++) due(4, "spread stays", x.of(i, 4), new int[] {0, 0, 20, -30}[i]);
        int[][] good = {{0, 0, 200}, {0, 0, -200}, {0, 0, 0}, {1, 1, 99}, {1, 1, 0}, {1, 1, 1}, {2, 2, 1}, {2, 2, 0}, {2, 2, 1}};
        for (int[] a : good) {
            due(4, "alter" + java.util.Arrays.toString(a), x.alter(a[0], a[1], a[2]), true);
            due(4, "it is so", x.of(a[0], a[1] + 4), a[2]);
            due(4, "it is so already", x.alter(a[0], a[1], a[2]), false);
        }
        due(4, "another one's stock", x.of(2, 5), 0);
        due(4, "another one is barred", x.of(1, 6), 0);
        DeliveryBasket y = one(3, 0, 1, 0, 0);
        y.switches(0, 3000, -1);
        y.alter(0, 0, 100);
        due(4, "price by the spread", y.price(0, 500), 94339622);
        due(4, "factor without the spread", y.of(0, 7), 9433);
    }

    private static void of() {
        DeliveryBasket x = four();
        x.alter(3, 1, 12);
        long[] want = {2, 600, 8, 4, -30, 12, 0, 10000, 1};
        for (int what = 0; what < 9; what++) due(5, "of(3, " + what + ")", x.of(3, what), want[what]);
        x.alter(3, 2, 1);
        due(5, "barred", x.of(3, 6), 1);
        due(5, "barred, so not eligible", x.of(3, 8), 0);
        due(5, "factor of a barred one", x.of(3, 7), 10000);
        x.contract(600, 6, 10);
        due(5, "10 periods, at most 10", x.of(0, 8), 1);
        due(5, "5 periods, at least 6", x.of(1, 8), 0);
        due(5, "20 periods, at most 10", x.of(2, 8), 0);
        x.contract(600, 5, 9);
        due(5, "10 periods, at most 9", x.of(0, 8), 0);
        due(5, "5 periods, at least 5", x.of(1, 8), 1);
        for (int what : new int[] {-1, 9, LOW, HIGH}) none(5, "of(0, " + what + ")", () -> x.of(0, what));
        for (int b : new int[] {-1, 4, LOW, HIGH}) none(5, "of(" + b + ", 0)", () -> x.of(b, 0));
        none(5, "of nothing", () -> new DeliveryBasket().of(0, 0));
        DeliveryBasket far = one(3, 0, 40, 0, 0);
        far.contract(2589, 1, 40);
        due(5, "factor 1", far.of(0, 7), 1);
        due(5, "factor 1 is eligible", far.of(0, 8), 1);
        far.contract(2590, 1, 40);
        due(5, "factor 0", far.of(0, 7), 0);
        due(5, "factor 0 is not eligible", far.of(0, 8), 0);
        due(5, "the greatest factor", highest().of(0, 7), 168000);
    }
    private static DeliveryBasket highest() {
        DeliveryBasket x = one(1, 2000, 40, 100, 0);
        x.contract(0, 1, 40);
        return x;
    }

    private static void flow() {
        DeliveryBasket x = new DeliveryBasket();
        x.bond(0, 333, 3, 0, 0);
        x.bond(1, 2000, 40, 100, 0);
        x.bond(2, 1000, 4, 3, 0);
        x.bond(3, 0, 2, 0, 0);
        x.bond(2, 1, 40, 7, 0);
        x.bond(2, 500, 2, 1, 0);
        long[][] want = {{3330000, 3330000, 103330000}, {20000000, 21000000, 22000000},
            {10000000, 43333333, 39999999, 36666667}, {0, 100000000}};
        for (int b = 0; b < want.length; b++) {
            for (int t = 0; t < want[b].length; t++) due(6, "flow(" + b + ", " + (t + 1) + ")", x.flow(b, t + 1), want[b][t]);
        }
        due(6, "the greatest flow", x.flow(1, 40), 159000000);
        due(6, "a sink ahead of its parts", x.flow(4, 33), 10000);
        due(6, "a sink's first part", x.flow(4, 34), 10000 + 14285714);
        due(6, "a sink's second part", x.flow(4, 35), 8571 + 14285714);
        due(6, "a sink's last part", x.flow(4, 40), 1428 + 14285716);
        due(6, "a sink of one part", x.flow(5, 1), 5000000);
        due(6, "a sink of one part", x.flow(5, 2), 105000000);
        int[][] bad = {{0, 0}, {0, 4}, {0, -1}, {0, LOW}, {0, HIGH}, {1, 41}, {-1, 1}, {6, 1}, {LOW, 1}, {HIGH, 1}};
        for (int[] a : bad) due(6, "flow" + java.util.Arrays.toString(a), x.flow(a[0], a[1]), NONE);
    }

    private static void price() {
        DeliveryBasket x = new DeliveryBasket();
        x.bond(3, 0, 1, 0, 0);
        x.bond(3, 0, 1, 0, 200);
        x.bond(3, 0, 1, 0, -200);
        x.bond(3, 0, 3, 0, 0);
        x.bond(1, 2000, 40, 100, 0);
        x.bond(3, 0, 40, 0, 0);
        due(7, "at 0", x.price(0, 0), HUNDRED);
        due(7, "at 1", x.price(0, 1), 99990000);
        due(7, "at 3000", x.price(0, 3000), 76923076);
        due(7, "at 3000 and 200", x.price(1, 3000), 75757575);
        due(7, "at 0 less 200", x.price(2, 0), HUNDRED);
        due(7, "at 199 less 200", x.price(2, 199), HUNDRED);
        due(7, "at 200 less 200", x.price(2, 200), HUNDRED);
        due(7, "at 201 less 200", x.price(2, 201), 99990000);
        due(7, "rounded down each period", x.price(3, 700), 81629785);
        due(7, "the greatest price", x.price(4, 0), 1680000000);
        due(7, "the least price but for the spread", x.price(5, 3000), 2766);
        x.switches(0, 3000, -1);
        due(7, "at 3000 and 200 again", x.price(1, 3000), 75757575);
        due(7, "again", x.price(3, 700), 81629785);
        int[][] bad = {{0, -1}, {0, 3001}, {0, LOW}, {0, HIGH}, {-1, 0}, {6, 0}, {LOW, 0}, {HIGH, 0}};
        for (int[] a : bad) due(7, "price" + java.util.Arrays.toString(a), x.price(a[0], a[1]), NONE);
    }

    private static void rateOf() {
        DeliveryBasket x = new DeliveryBasket();
        x.bond(3, 0, 1, 0, 0);
        x.bond(3, 0, 1, 0, -200);
        x.bond(1, 2000, 40, 100, 0);
        due(8, "by HUNDRED", x.rateOf(0, HUNDRED), 0);
        due(8, "by 1 less", x.rateOf(0, HUNDRED - 1), 1);
        due(8, "by the price at 600", x.rateOf(0, 94339622), 600);
        due(8, "by 1 less than that", x.rateOf(0, 94339621), 601);
        due(8, "by the price at 3000", x.rateOf(0, 76923076), 3000);
        due(8, "by less than that", x.rateOf(0, 76923075), NONE);
        due(8, "by much", x.rateOf(0, HIGH), 0);
        due(8, "by 0", x.rateOf(0, 0), NONE);
        due(8, "by less than 0", x.rateOf(0, LOW), NONE);
        due(8, "where the rate is 0 at least", x.rateOf(1, HUNDRED), 0);
        due(8, "behind that", x.rateOf(1, HUNDRED - 1), 201);
        due(8, "by the greatest price", x.rateOf(2, 1680000000), 0);
        due(8, "by 1 less", x.rateOf(2, 1679999999), 1);
        for (int b : new int[] {-1, 3, LOW, HIGH}) due(8, "rateOf(" + b + ")", x.rateOf(b, HUNDRED), NONE);
    }

    private static void contract() {
        DeliveryBasket x = four();
        int[][] bad = {{600, 1, 40}, {-1, 1, 40}, {3001, 1, 40}, {LOW, 1, 40}, {HIGH, 1, 40}, {500, 0, 40}, {500, -1, 40},
            {500, 1, 41}, {500, 1, 0}, {500, 3, 2}, {500, 41, 41}, {500, LOW, 40}, {500, 1, HIGH}, {500, 0, 0}};
        for (int[] a : bad) due(9, "contract" + java.util.Arrays.toString(a), x.contract(a[0], a[1], a[2]), false);
        due(9, "it stays", x.count(2) * 10000 + x.count(3) * 100 + x.count(4), 6000140);
        int[][] good = {{0, 1, 40}, {3000, 1, 40}, {3000, 40, 40}, {3000, 1, 1}, {3000, 1, 2}, {3000, 2, 2}, {600, 2, 2}};
        for (int[] a : good) {
            due(9, "contract" + java.util.Arrays.toString(a), x.contract(a[0], a[1], a[2]), true);
            due(9, "it is that", x.count(2) * 10000L + x.count(3) * 100 + x.count(4), a[0] * 10000L + a[1] * 100 + a[2]);
            due(9, "it is that already", x.contract(a[0], a[1], a[2]), false);
        }
        x.contract(0, 1, 40);
        due(9, "factor by the notional", x.of(0, 7), 18000);
        due(9, "and of the last one", x.of(3, 7), 13900);
    }

    private static void count() {
        DeliveryBasket x = four();
        x.alter(0, 1, 5);
        x.alter(1, 1, 6);
        x.alter(2, 1, 99);
        due(10, "bonds", x.count(0), 4);
        due(10, "eligible ones", x.count(1), 15);
        due(10, "stocks", x.count(5), 110);
        x.alter(1, 2, 1);
        due(10, "eligible ones, one is barred", x.count(1), 13);
        due(10, "stocks of these", x.count(5), 104);
        x.contract(601, 2, 10);
        due(10, "eligible ones by periods", x.count(1), 9);
        due(10, "stocks of these", x.count(5), 5);
        x.tree(7, 123, 45, -67, 89);
        long[] want = {4, 9, 601, 2, 10, 5, 7, 123, 45, -67, 89};
        for (int what = 0; what < want.length; what++) due(10, "count(" + what + ")", x.count(what), want[what]);
        for (int what : new int[] {-1, 11, LOW, HIGH}) due(10, "count(" + what + ")", x.count(what), NONE);
    }

    private static void cheapest() {
        DeliveryBasket x = four();
        due(11, "at 0", x.cheapest(0), 1);
        due(11, "at 569", x.cheapest(569), 1);
        due(11, "at 570", x.cheapest(570), 2);
        due(11, "at 3000", x.cheapest(3000), 2);
        for (int r : new int[] {-1, 3001, LOW, HIGH}) due(11, "cheapest(" + r + ")", x.cheapest(r), NONE);
        x.alter(2, 2, 1);
        due(11, "at 600 but for the best", x.cheapest(600), 0);
        due(11, "none there", new DeliveryBasket().cheapest(600), NONE);
        due(11, "barred", barredOne().cheapest(600), NONE);
        DeliveryBasket like = one(3, 0, 2, 0, 5);
        like.bond(3, 0, 1, 0, 0);
        like.bond(3, 0, 1, 0, 0);
        due(11, "of like ones the first", like.cheapest(0), 1);
    }

    private static void ranked() {
        DeliveryBasket x = four();
        int[][] want = {{0, 1, 3, 0, 2}, {600, 2, 0, 1, 3}, {1500, 2, 0, 3, 1}};
        for (int[] w : want) {
            for (int k = 0; k < 4; k++) due(12, "ranked(" + w[0] + ", " + k + ")", x.ranked(w[0], k), w[k + 1]);
        }
        for (int k : new int[] {-1, 4, LOW, HIGH}) due(12, "ranked(600, " + k + ")", x.ranked(600, k), NONE);
        for (int r : new int[] {-1, 3001, LOW, HIGH}) due(12, "ranked(" + r + ", 0)", x.ranked(r, 0), NONE);
        x.alter(0, 2, 1);
        due(12, "one is barred", x.ranked(600, 1), 1);
        due(12, "one is barred", x.ranked(600, 3), NONE);
        DeliveryBasket like = new DeliveryBasket();
        like.bond(3, 0, 3, 0, 0);
        like.bond(3, 0, 1, 0, 0);
        like.bond(3, 0, 1, 0, 0);
        like.bond(3, 0, 3, 0, 0);
        int[] order = {1, 2, 0, 3};
        for (int k = 0; k < 4; k++) due(12, "like ones " + k, like.ranked(0, k), order[k]);
        due(12, "none there", new DeliveryBasket().ranked(0, 0), NONE);
    }

    private static void mark() {
        DeliveryBasket x = four();
        long[][] want = {{0, 133832976}, {569, 101483076}, {570, 101413967}, {600, 97262361}, {3000, 10537785}};
        for (long[] w : want) due(13, "mark(" + w[0] + ")", x.mark((int) w[0]), w[1]);
        for (int r : new int[] {-1, 3001, LOW, HIGH}) due(13, "mark(" + r + ")", x.mark(r), NONE);
        due(13, "none there", new DeliveryBasket().mark(600), NONE);
        due(13, "barred", barredOne().mark(600), NONE);
        DeliveryBasket far = one(3, 0, 40, 0, 0);
        far.contract(2589, 1, 40);
        due(13, "beyond an int", far.mark(0), 1000000000000L);
    }

    private static void gap() {
        DeliveryBasket x = four();
        long[][] want = {{600, 3140790, 2051380, 1, 4322954}, {1500, 26867482, 24966584, 1, 32245750}};
        for (long[] w : want) {
            for (int b = 0; b < 4; b++) due(14, "gap(" + b + ", " + w[0] + ")", x.gap(b, (int) w[0]), w[b + 1]);
        }
        due(14, "of the greatest one", highest().gap(0, 0), 0);
        for (int b : new int[] {-1, 4, LOW, HIGH}) none(14, "gap(" + b + ", 600)", () -> x.gap(b, 600));
        for (int r : new int[] {-1, 3001, LOW, HIGH}) none(14, "gap(0, " + r + ")", () -> x.gap(0, r));
        x.alter(1, 2, 1);
        none(14, "gap of a barred one", () -> x.gap(1, 600));
        DeliveryBasket none = new DeliveryBasket();
        none(14, "gap of nothing", () -> none.gap(0, 600));
    }

    private static void switches() {
        DeliveryBasket x = new DeliveryBasket();
        x.bond(0, 500, 2, 0, 0);
        x.bond(3, 0, 2, 0, 0);
        x.bond(0, 700, 6, 0, 35);
        x.bond(3, 0, 12, 0, 10);
        long[][] want = {{0, 3000, -1, 2}, {0, 3000, 0, 544}, {0, 3000, 1, 609}, {0, 3000, 2, -1}, {543, 544, -1, 1},
            {544, 609, -1, 1}, {544, 609, 0, 609}, {544, 608, -1, 0}, {544, 608, 0, -1}, {0, 0, -1, 0}, {3000, 3000, -1, 0},
            {544, 544, -1, 0}, {-1, 600, -1, -1}, {0, 3001, -1, -1}, {600, 599, -1, -1}, {LOW, HIGH, -1, -1},
            {3001, 3001, -1, -1}, {-1, -1, -1, -1}, {0, 3000, -2, -1}, {0, 3000, LOW, -1}, {0, 3000, HIGH, -1}};
        for (long[] w : want) {
            due(15, "switches" + java.util.Arrays.toString(w), x.switches((int) w[0], (int) w[1], (int) w[2]), w[3]);
        }
        x.alter(2, 2, 1);
        due(15, "but for one", x.switches(0, 3000, -1), 1);
        x.alter(2, 2, 0);
        x.alter(2, 0, 0);
        due(15, "by another spread", x.switches(0, 3000, -1), 1);
        due(15, "by another spread", x.switches(0, 3000, 0), 589);
        due(15, "none there", new DeliveryBasket().switches(0, 3000, -1), NONE);
        due(15, "barred", barredOne().switches(0, 3000, -1), NONE);
        due(15, "one alone", one(3, 0, 2, 0, 0).switches(0, 3000, -1), 0);
    }

    private static void implied() {
        DeliveryBasket x = four();
        long[][] want = {{133832976, 0}, {133832975, 1}, {97262361, 600}, {97262360, 601}, {97397366, 599}, {101413967, 570},
            {10537785, 3000}, {10537784, -1}, {0, -1}, {-1, -1}, {Long.MIN_VALUE, -1}, {Long.MAX_VALUE, 0}};
        for (long[] w : want) due(16, "implied(" + w[0] + ")", x.implied(w[0]), w[1]);
        DeliveryBasket far = one(3, 0, 40, 0, 0);
        far.contract(2589, 1, 40);
        due(16, "beyond an int", far.implied(1000000000000L), 0);
        due(16, "by 1 less", far.implied(999999999999L), 1);
        due(16, "none there", new DeliveryBasket().implied(Long.MAX_VALUE), NONE);
        due(16, "barred", barredOne().implied(Long.MAX_VALUE), NONE);
    }

    /** Costs at 600 by 97262361: 3140790, 2051380, 1, 4322954. */
    private static DeliveryBasket stocked() {
        DeliveryBasket x = four();
        x.alter(0, 1, 3);
        x.alter(1, 1, 99);
        x.alter(2, 1, 2);
        x.alter(3, 1, 99);
        return x;
    }

    private static void meet() {
        DeliveryBasket x = stocked();
        int m = 97262361;
        int[][] want = {{0, 0, 0, 0, 0}, {1, 0, 0, 1, 0}, {2, 0, 0, 2, 0}, {3, 0, 1, 2, 0}, {101, 0, 99, 2, 0},
            {103, 2, 99, 2, 0}, {104, 3, 99, 2, 0}, {105, 3, 99, 2, 1}, {200, 3, 99, 2, 96}};
        for (int[] w : want) {
            for (int b = 0; b < 4; b++) due(17, "meet(" + w[0] + ", 600, m, " + b + ")", x.meet(w[0], 600, m, b), w[b + 1]);
            due(17, "meet(" + w[0] + ", 600, m, NONE)", x.meet(w[0], 600, m, NONE), 1);
        }
        x.alter(3, 1, 95);
        due(17, "not enough", x.meet(200, 600, m, NONE), 0);
        due(17, "not enough, a bond", x.meet(200, 600, m, 0), NONE);
        x.alter(2, 2, 1);
        due(17, "of a barred one none", x.meet(3, 600, m, 2), 0);
        due(17, "others instead of it", x.meet(3, 600, m, 1), 3);
        int[][] bad = {{-1, 600, m, 0}, {201, 600, m, -1}, {LOW, 600, m, -1}, {HIGH, 600, m, -1}, {1, -1, m, -1}, {1, 3001, m, -1},
            {1, HIGH, m, -1}, {1, 600, -1, -1}, {1, 600, 1000000000, -1}, {1, 600, LOW, -1}, {1, 600, HIGH, -1},
            {1, 600, m, -2}, {1, 600, m, 4}, {1, 600, m, LOW}, {1, 600, m, HIGH}, {0, 600, m, 4}};
        for (int[] a : bad) due(17, "meet" + java.util.Arrays.toString(a), x.meet(a[0], a[1], a[2], a[3]), NONE);
        due(17, "the least numbers", x.meet(0, 0, 0, -1), 1);
        due(17, "the greatest numbers", x.meet(1, 3000, 999999999, -1), 1);
        due(17, "none of nothing", new DeliveryBasket().meet(0, 0, 0, -1), 1);
        due(17, "one of nothing", new DeliveryBasket().meet(1, 0, 0, -1), 0);
        due(17, "a bond of nothing", new DeliveryBasket().meet(0, 0, 0, 0), NONE);
        DeliveryBasket like = new DeliveryBasket();
        for (int i = 0; i < 3; i++) {
            like.bond(3, 0, 1, 0, 0);
            like.alter(i, 1, 4);
        }
        int[] split = {4, 2, 0};
        for (int b = 0; b < 3; b++) due(17, "of like costs the first", like.meet(6, 600, 5, b), split[b]);
    }

    private static void cost() {
        DeliveryBasket x = stocked();
        int m = 97262361;
        long[][] want = {{0, 0}, {1, 1}, {2, 2}, {3, 2051382}, {104, 2 + 99 * 2051380L + 3 * 3140790L}, {105, 2 + 99 * 2051380L + 3 * 3140790L + 4322954}};
        for (long[] w : want) due(18, "cost(" + w[0] + ", 600, m)", x.cost((int) w[0], 600, m), w[1]);
        due(18, "below 0", x.cost(2, 600, 999999999), 2 * (114720170L - 1147199998L));
        none(18, "not enough", () -> { DeliveryBasket y = stocked(); y.alter(3, 1, 95); return y.cost(200, 600, m); });
        int[][] bad = {{-1, 600, m}, {201, 600, m}, {LOW, 600, m}, {HIGH, 600, m}, {1, -1, m}, {1, 3001, m}, {1, LOW, m},
            {1, 600, -1}, {1, 600, 1000000000}, {1, 600, HIGH}};
        for (int[] a : bad) none(18, "cost" + java.util.Arrays.toString(a), () -> x.cost(a[0], a[1], a[2]));
        due(18, "none of nothing", new DeliveryBasket().cost(0, 0, 0), 0);
        none(18, "one of nothing", () -> new DeliveryBasket().cost(1, 0, 0));
        none(18, "no stock", () -> four().cost(1, 600, m));
        DeliveryBasket far = highest();
        far.alter(0, 1, 99);
        due(18, "beyond an int", far.cost(99, 0, 0), 99 * 1680000000L);
        due(18, "far below 0", far.cost(99, 0, 999999999), 99 * (1680000000L - 16799999983L));
    }

    private static void tree() {
        DeliveryBasket x = new DeliveryBasket();
        int[][] bad = {{0, 600, 10, 0, HUNDRED}, {-1, 600, 10, 0, 1}, {21, 600, 10, 0, 1}, {LOW, 600, 10, 0, 1}, {HIGH, 600, 10, 0, 1},
            {1, -1, 10, 0, 1}, {1, 3001, 10, 0, 1}, {1, 600, -1, 0, 1}, {1, 600, 51, 0, 1}, {1, 600, HIGH, 0, 1},
            {1, 600, 10, -1000001, 1}, {1, 600, 10, 1000001, 1}, {1, 600, 10, LOW, 1}, {1, 600, 10, 0, -1},
            {1, 600, 10, 0, 1000000000}, {1, 600, 10, 0, LOW}, {1, 600, 10, 0, HIGH}};
        for (int[] a : bad) due(19, "tree" + java.util.Arrays.toString(a), x.tree(a[0], a[1], a[2], a[3], a[4]), false);
        due(19, "it stays", x.count(6) + x.count(7) + x.count(8) + x.count(9) + x.count(10), 600 + 10 + HUNDRED);
        int[][] good = {{20, 3000, 50, 1000000, 999999999}, {0, 3000, 50, 1000000, 999999999}, {0, 0, 50, 1000000, 999999999},
            {0, 0, 0, 1000000, 999999999}, {0, 0, 0, -1000000, 999999999}, {0, 0, 0, -1000000, 0}};
        for (int[] a : good) {
            due(19, "tree" + java.util.Arrays.toString(a), x.tree(a[0], a[1], a[2], a[3], a[4]), true);
            for (int what = 6; what <= 10; what++) due(19, "count(" + what + ")", x.count(what), a[what - 6]);
            due(19, "it is that already", x.tree(a[0], a[1], a[2], a[3], a[4]), false);
        }
    }

    private static void rate() {
        DeliveryBasket x = new DeliveryBasket();
        due(20, "the first node", x.rate(0, 0), 600);
        due(20, "no day behind it", x.rate(1, 0), NONE);
        x.tree(20, 100, 7, 0, 0);
        due(20, "one down", x.rate(1, 0), 93);
        due(20, "one up", x.rate(1, 1), 107);
        due(20, "one of each", x.rate(2, 1), 100);
        due(20, "all down, 0 at least", x.rate(20, 0), 0);
        due(20, "14 down", x.rate(14, 0), 2);
        due(20, "15 down", x.rate(15, 0), 0);
        due(20, "all up", x.rate(20, 20), 240);
        x.tree(20, 2990, 50, 0, 0);
        due(20, "3000 at most", x.rate(1, 1), 3000);
        due(20, "not by one cut ahead", x.rate(20, 9), 2890);
        int[][] bad = {{-1, 0}, {21, 0}, {3, 4}, {3, -1}, {LOW, LOW}, {HIGH, HIGH}, {0, 1}, {20, 21}, {20, HIGH}};
        for (int[] a : bad) due(20, "rate" + java.util.Arrays.toString(a), x.rate(a[0], a[1]), NONE);
    }

    /** Delivers one day up, two days down, else on the last day. */
    private static DeliveryBasket treed() {
        DeliveryBasket x = four();
        x.tree(3, 600, 40, 60000, HUNDRED);
        return x;
    }
    private static final long[][] VALUES = {{3282062}, {-177801, 6861926}, {-2890645, 2655043, 11069560},
        {-4383113, -1431839, 6861926, 15005497}};
    private static final int[][] ACTS = {{-2}, {-2, 2}, {1, -2, 2}, {1, 1, 2, 2}};

    private static void value() {
        DeliveryBasket x = treed();
        for (int d = 0; d < 4; d++) {
            for (int u = 0; u <= d; u++) due(21, "value(" + d + ", " + u + ")", x.value(d, u), VALUES[d][u]);
        }
        int[][] bad = {{-1, 0}, {4, 0}, {3, 4}, {2, -1}, {LOW, 0}, {HIGH, HIGH}, {0, LOW}};
        for (int[] a : bad) none(21, "value" + java.util.Arrays.toString(a), () -> x.value(a[0], a[1]));
        none(21, "value of nothing", () -> new DeliveryBasket().value(0, 0));
        none(21, "value of barred ones", () -> barredOne().value(0, 0));
        DeliveryBasket z = one(3, 0, 1, 0, 0);
        z.tree(1, 600, ODD_JUMP, -1000000, 0);
        due(21, "halves are rounded down, below 0 too", z.value(0, 0), ODD_HALF + 1000000);
        DeliveryBasket far = highest();
        far.tree(20, 0, 0, 0, 999999999);
        due(21, "beyond an int", far.value(0, 0), 16799999983L - 1680000000L);
    }
    private static final int ODD_JUMP = 2;
    private static final long ODD_HALF = -94339626L;

    private static void act() {
        DeliveryBasket x = treed();
        for (int d = 0; d < 4; d++) {
            for (int u = 0; u <= d; u++) due(22, "act(" + d + ", " + u + ")", x.act(d, u), ACTS[d][u]);
        }
        int[][] bad = {{-1, 0}, {4, 0}, {3, 4}, {2, -1}, {LOW, 0}, {HIGH, HIGH}, {0, LOW}};
        for (int[] a : bad) due(22, "act" + java.util.Arrays.toString(a), x.act(a[0], a[1]), NONE);
        due(22, "the first one alone", one(3, 0, 1, 0, 0).act(0, 0), 0);
        due(22, "of nothing", new DeliveryBasket().act(0, 0), NONE);
        due(22, "of barred ones", barredOne().act(0, 0), NONE);
        DeliveryBasket like = one(3, 0, 2, 0, 200);
        like.alter(0, 2, 1);
        like.bond(3, 0, 1, 0, 0);
        like.bond(3, 0, 1, 0, 0);
        like.tree(1, 600, 0, 0, HUNDRED);
        due(22, "it delivers where now is as good as waiting, of like ones the first", like.act(0, 0), 1);
        like.tree(1, 600, 0, -1, HUNDRED);
        due(22, "it waits where waiting is 1 more", like.act(0, 0), -2);
        due(22, "it delivers on the last day", like.act(1, 1), 1);
    }

    private static void path() {
        DeliveryBasket x = treed();
        int[] days = {2, 1, 3, 1, 2, 1, 3, 1};
        int[] bonds = {1, 2, 1, 2, 1, 2, 2, 2};
        for (int ups = 0; ups < 8; ups++) {
            due(23, "path(" + ups + ", false)", x.path(ups, false), days[ups]);
            due(23, "path(" + ups + ", true)", x.path(ups, true), bonds[ups]);
        }
        for (int ups : new int[] {-1, 8, LOW, HIGH}) {
            due(23, "path(" + ups + ", false)", x.path(ups, false), NONE);
            due(23, "path(" + ups + ", true)", x.path(ups, true), NONE);
        }
        DeliveryBasket z = one(3, 0, 1, 0, 0);
        due(23, "no days", z.path(0, false), 0);
        due(23, "no days", z.path(0, true), 0);
        due(23, "no days, a bit", z.path(1, true), NONE);
        z.tree(20, 600, 1, -1000000, HUNDRED);
        due(23, "20 days", z.path((1 << 20) - 1, false), 20);
        due(23, "20 days, 21 bits", z.path(1 << 20, false), NONE);
        due(23, "of nothing", new DeliveryBasket().path(0, false), NONE);
        due(23, "of barred ones", barredOne().path(0, true), NONE);
    }

    private static void often() {
        DeliveryBasket x = treed();
        int[] want = {0, 4, 2, 2};
        for (int d = 0; d < 4; d++) due(24, "often(" + d + ")", x.often(d), want[d]);
        for (int d : new int[] {-1, 4, LOW, HIGH}) due(24, "often(" + d + ")", x.often(d), NONE);
        DeliveryBasket z = one(3, 0, 1, 0, 0);
        due(24, "no days", z.often(0), 1);
        z.tree(20, 600, 1, -1000000, HUNDRED);
        due(24, "all wait", z.often(20), 1 << 20);
        due(24, "none ahead", z.often(19), 0);
        z.tree(20, 600, 0, 0, HUNDRED);
        due(24, "none waits", z.often(0), 1 << 20);
        due(24, "none behind", z.often(20), 0);
        due(24, "of nothing", new DeliveryBasket().often(0), NONE);
        due(24, "of barred ones", barredOne().often(0), NONE);
    }

    private static void fixed() {
        DeliveryBasket x = treed();
        long[] want = {2361487, 2655043, 3105472, 3184080};
        for (int d = 0; d < 4; d++) due(25, "fixed(" + d + ")", x.fixed(d), want[d]);
        for (int d : new int[] {-1, 4, LOW, HIGH}) none(25, "fixed(" + d + ")", () -> x.fixed(d));
        due(25, "the acts are as they were", x.act(1, 1), 2);
        none(25, "of nothing", () -> new DeliveryBasket().fixed(0));
        none(25, "of barred ones", () -> barredOne().fixed(0));
        DeliveryBasket z = one(3, 0, 1, 0, 0);
        z.tree(1, 600, ODD_JUMP, 0, 0);
        due(25, "rounded down below 0", z.fixed(1), ODD_HALF);
    }

    private static void only() {
        DeliveryBasket x = treed();
        long[] want = {-170, -5816, 2361487, -1585315};
        for (int b = 0; b < 4; b++) due(26, "only(" + b + ")", x.only(b), want[b]);
        for (int b : new int[] {-1, 4, LOW, HIGH}) none(26, "only(" + b + ")", () -> x.only(b));
        x.alter(2, 2, 1);
        none(26, "only a barred one", () -> x.only(2));
        x.contract(600, 6, 40);
        none(26, "only one of too few periods", () -> x.only(1));
        due(26, "another one", x.only(3), want[3]);
    }

    private static void without() {
        DeliveryBasket x = treed();
        long[] want = {0, 705515, 2168411, 0};
        for (int b = 0; b < 4; b++) due(27, "without(" + b + ")", x.without(b), want[b]);
        for (int b : new int[] {-1, 4, LOW, HIGH}) none(27, "without(" + b + ")", () -> x.without(b));
        x.alter(2, 2, 1);
        due(27, "a barred one", x.without(2), 0);
        x.alter(0, 2, 1);
        x.alter(3, 2, 1);
        none(27, "the one that is left", () -> x.without(1));
        due(27, "a barred one beside it", x.without(0), 0);
        due(27, "a barred one alone", barredOne().without(0), 0);
        none(27, "of nothing", () -> new DeliveryBasket().without(0));
    }

    private static void fair() {
        DeliveryBasket x = treed();
        due(28, "fair()", x.fair(), 95959436);
        x.tree(3, 600, 40, 60000, 5);
        due(28, "whatever is agreed", x.fair(), 95959436);
        x.tree(3, 600, 40, -1000000, HUNDRED);
        due(28, "by another carry", x.fair(), 92093329);
        due(28, "the mark agreed stays", x.count(10), HUNDRED);
        DeliveryBasket far = one(3, 0, 40, 0, 0);
        far.tree(20, 3000, 0, -1000000, HUNDRED);
        due(28, "by 0", far.fair(), 0);
        far.tree(0, 0, 0, 0, HUNDRED);
        far.contract(2589, 1, 40);
        due(28, "by none", far.fair(), NONE);
        DeliveryBasket tenth = one(3, 0, 40, 0, 0);
        tenth.tree(0, 100, 0, 0, 0);
        due(28, "of a far one", tenth.fair(), 691000998);
        tenth.tree(0, 8, 0, 0, 0);
        due(28, "just below the greatest mark", tenth.fair(), 996418498);
        tenth.tree(0, 7, 0, 0, 0);
        due(28, "just beyond the greatest mark", tenth.fair(), NONE);
        due(28, "of nothing", new DeliveryBasket().fair(), NONE);
        due(28, "of barred ones", barredOne().fair(), NONE);
    }

    public static void main(String[] args) {
        aNewObject();
        bond();
        drop();
        alter();
        of();
        flow();
        price();
        rateOf();
        contract();
        count();
        cheapest();
        ranked();
        mark();
        gap();
        switches();
        implied();
        meet();
        cost();
        tree();
        rate();
        value();
        act();
        path();
        often();
        fixed();
        only();
        without();
        fair();
        System.out.println(wrong == 0 ? "all answers are as due" : wrong + " answers are not as due");
        if (wrong != 0) System.exit(1);
    }
}
