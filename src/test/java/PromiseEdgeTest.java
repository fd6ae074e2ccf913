import java.util.Arrays;
import java.util.NoSuchElementException;

/** The sentences of the promises that name an edge or a refusal, each with a test of its own. */
public final class PromiseEdgeTest {
    private static final int NONE = DeliveryBasket.NONE;
    private static final int HUNDRED = 100000000;
    private static final int MOST_MARK = 999999999;
    private static final int LOW = Integer.MIN_VALUE;
    private static final int HIGH = Integer.MAX_VALUE;
    private static final int PLAIN = 0;
    private static final int STEP = 1;
    private static final int SINK = 2;
    private static final int ZERO = 3;
    private static int wrong = 0;
    private static String sentence = "";

    private interface Call { long answer(); }

    private static void due(String what, long got, long want) {
        if (got != want) {
            wrong++;
            System.out.println(sentence + ": " + what + " answered " + got + ", due is " + want);
        }
    }
    private static void due(String what, boolean got, boolean want) { due(what, got ? 1 : 0, want ? 1 : 0); }
    private static void none(String what, Call asked) {
        String got;
        try {
            got = "" + asked.answer();
        } catch (RuntimeException e) {
            if (e.getClass() == NoSuchElementException.class) return;
            got = "" + e;
        }
        wrong++;
        System.out.println(sentence + ": " + what + " answered " + got + ", due is a NoSuchElementException");
    }

    private static DeliveryBasket of(int[]... bonds) {
        DeliveryBasket x = new DeliveryBasket();
        for (int[] b : bonds) x.bond(b[0], b[1], b[2], b[3], b[4]);
        return x;
    }
    private static DeliveryBasket zeros(int... periods) {
        DeliveryBasket x = new DeliveryBasket();
        for (int p : periods) x.bond(ZERO, 0, p, 0, 0);
        return x;
    }
    private static final int[][] EIGHT = {{PLAIN, 800, 10, 0, 0}, {ZERO, 0, 5, 0, 0}, {STEP, 100, 20, 50, 20}, {SINK, 600, 8, 4, -30},
        {PLAIN, 0, 1, 0, 200}, {STEP, 2000, 40, 100, -200}, {SINK, 2000, 40, 40, 0}, {ZERO, 0, 40, 0, 7}};
    private static final int[] EIGHT_FACTORS = {11472, 7472, 8626, 10000, 9433, 49660, 24556, 972};
    private static final int[] EIGHT_PRICES = {114720170, 74725816, 83898513, 101585315, 92592592, 703214675, 245563260, 9468842};   // at 600
    private static DeliveryBasket first(int size) { return of(Arrays.copyOf(EIGHT, size)); }

    /** Numbers of bonds that are not there, where size of them are. */
    private static int[] notThere(int size) { return new int[] {-1, -2, size, size + 1, 8, 9, LOW, HIGH}; }

    // ---- bonds

    private static void aNewObject() {
        sentence = "1: no BONDS";
        DeliveryBasket x = new DeliveryBasket();
        due("count(0)", x.count(0), 0);
        due("count(1)", x.count(1), 0);
        due("count(5)", x.count(5), 0);
        due("drop(0)", x.drop(0), NONE);
        none("of(0, 0)", () -> x.of(0, 0));
        due("the first one's number", x.bond(ZERO, 0, 1, 0, 0), 0);
        DeliveryBasket y = new DeliveryBasket();
        due("a second object's bonds", y.count(0), 0);
        y.contract(700, 2, 3);
        y.tree(1, 2, 3, 4, 5);
        due("the first object's contract", x.count(2), 600);
        due("the first object's tree", x.count(6), 0);
    }

    private static void itsNumber() {
        sentence = "2: a BOND comes: its number";
        DeliveryBasket x = new DeliveryBasket();
        for (int b = 0; b < 8; b++) {
            int[] a = EIGHT[b];
            due("the number of " + b, x.bond(a[0], a[1], a[2], a[3], a[4]), b);
            due("how many", x.count(0), b + 1);
        }
        for (int b = 0; b < 8; b++) {
            for (int what = 0; what < 5; what++) due("of(" + b + ", " + what + ")", x.of(b, what), EIGHT[b][what]);
        }
    }

    private static void noNumber() {
        sentence = "2: NONE: a number that can't be, there are 8";
        int[][] bad = {{-1, 0, 1, 0, 0}, {4, 0, 1, 0, 0}, {PLAIN, -1, 1, 0, 0}, {PLAIN, 2001, 1, 0, 0}, {PLAIN, 0, 0, 0, 0}, {PLAIN, 0, 41, 0, 0},
            {PLAIN, 0, 1, 1, 0}, {STEP, 0, 1, 0, 0}, {STEP, 0, 1, 101, 0}, {SINK, 0, 1, 0, 0}, {SINK, 0, 1, 2, 0}, {ZERO, 1, 1, 0, 0},
            {ZERO, 0, 1, 1, 0}, {PLAIN, 0, 1, 0, -201}, {PLAIN, 0, 1, 0, 201}};
        for (int size = 0; size <= 8; size++) {
            DeliveryBasket x = first(size);
            for (int[] a : bad) due(size + " there, bond" + Arrays.toString(a), x.bond(a[0], a[1], a[2], a[3], a[4]), NONE);
            due("how many", x.count(0), size);
            due(size + " there, one that can be", x.bond(ZERO, 0, 1, 0, 0), size < 8 ? size : NONE);
        }
    }

    private static void howManyAreLeft() {
        sentence = "3: a BOND is gone: how many are left";
        DeliveryBasket x = first(8);
        for (int left = 7; left >= 0; left--) {
            due("drop of the last", x.drop(left), left);
            due("count(0)", x.count(0), left);
        }
        due("drop of none", x.drop(0), NONE);
        due("count(0)", x.count(0), 0);
    }

    private static void thoseBehindComeUp() {
        sentence = "3: those behind it come up";
        for (int gone = 0; gone < 8; gone++) {
            DeliveryBasket x = first(8);
            for (int b = 0; b < 8; b++) {
                x.alter(b, 1, b + 1);
                x.alter(b, 2, b % 2);
            }
            x.drop(gone);
            for (int b = 0; b < 7; b++) {
                int was = b < gone ? b : b + 1;
                for (int what = 0; what < 5; what++) due(gone + " is gone, of(" + b + ", " + what + ")", x.of(b, what), EIGHT[was][what]);
                due(gone + " is gone, stock of " + b, x.of(b, 5), was + 1);
                due(gone + " is gone, barred " + b, x.of(b, 6), was % 2);
                due(gone + " is gone, factor of " + b, x.of(b, 7), EIGHT_FACTORS[was]);
                due(gone + " is gone, price of " + b, x.price(b, 600), EIGHT_PRICES[was]);
            }
            none(gone + " is gone, of(7, 0)", () -> x.of(7, 0));
            due(gone + " is gone, price of 7", x.price(7, 600), NONE);
        }
    }

    private static void aNewOneIsNew() {
        sentence = "3: what comes after a drop has nothing of what is gone";
        for (int turn = 0; turn < 8; turn++) {
            DeliveryBasket x = first(8);
            for (int b = 0; b < 8; b++) {
                x.alter(b, 1, 99);
                x.alter(b, 2, 1);
                x.alter(b, 2, 0);
            }
            x.switches(0, 3000, NONE);   // at which much may be kept
            for (int b = 0; b < 8; b++) x.alter(b, 2, 1);
            x.contract(0, 1, 40);
            for (int b = 0; b < 8; b++) x.drop(0);
            x.contract(600, 1, 40);
            for (int b = 0; b < 8; b++) {
                int[] a = EIGHT[(b + turn) % 8];
                x.bond(a[0], a[1], a[2], a[3], a[4]);
            }
            for (int b = 0; b < 8; b++) {
                due("stock of " + b, x.of(b, 5), 0);
                due("barred " + b, x.of(b, 6), 0);
                due("factor of " + b, x.of(b, 7), EIGHT_FACTORS[(b + turn) % 8]);
                due("price of " + b, x.price(b, 600), EIGHT_PRICES[(b + turn) % 8]);
            }
        }
    }

    private static void dropOfNoneSuch() {
        sentence = "3: NONE: there is none such";
        for (int size = 0; size <= 8; size++) {
            DeliveryBasket x = first(size);
            for (int b : notThere(size)) due(size + " there, drop(" + b + ")", x.drop(b), NONE);
            due("how many", x.count(0), size);
        }
    }

    private static void altered() {
        sentence = "4: SPREAD, STOCK is another number; or it is BARRED (1), not any more (0): true";
        int[][] good = {{0, -200}, {0, 200}, {0, 0}, {1, 99}, {1, 0}, {1, 1}, {2, 1}, {2, 0}};
        DeliveryBasket x = first(8);
        x.alter(0, 0, 1);
        x.alter(7, 0, 1);
        for (int b : new int[] {0, 7}) {
            for (int[] a : good) {
                due("alter(" + b + ", " + a[0] + ", " + a[1] + ")", x.alter(b, a[0], a[1]), true);
                due("it is that", x.of(b, a[0] + 4), a[1]);
            }
        }
        for (int b = 1; b < 7; b++) {
            due("another one's spread", x.of(b, 4), EIGHT[b][4]);
            due("another one's stock", x.of(b, 5), 0);
            due("another one is barred", x.of(b, 6), 0);
        }
    }

    private static void alteredAlready() {
        sentence = "4: false: it is so";
        DeliveryBasket x = first(8);
        for (int b = 0; b < 8; b++) {
            due("the spread that it came with", x.alter(b, 0, EIGHT[b][4]), false);
            due("no stock, as it came", x.alter(b, 1, 0), false);
            due("not barred, as it came", x.alter(b, 2, 0), false);
        }
        x.alter(0, 1, 99);
        due("99 already", x.alter(0, 1, 99), false);
        x.alter(0, 2, 1);
        due("barred already", x.alter(0, 2, 1), false);
        x.alter(0, 2, 0);
        due("not barred any more already", x.alter(0, 2, 0), false);
        x.alter(0, 0, -200);
        due("-200 already", x.alter(0, 0, -200), false);
    }

    private static void cantBeAltered() {
        sentence = "4: false: it can't be, there is none such";
        int[][] bad = {{0, -201}, {0, 201}, {0, LOW}, {0, HIGH}, {1, -1}, {1, 100}, {1, LOW}, {1, HIGH}, {2, -1}, {2, 2}, {2, LOW}, {2, HIGH},
            {-1, 1}, {3, 1}, {LOW, 1}, {HIGH, 1}};
        for (int size = 0; size <= 8; size++) {
            DeliveryBasket x = first(size);
            for (int[] a : bad) due("alter(0, " + a[0] + ", " + a[1] + ")", x.alter(0, a[0], a[1]), false);
            for (int b : notThere(size)) {
                for (int what = 0; what < 3; what++) due(size + " there, alter(" + b + ", " + what + ", 1)", x.alter(b, what, 1), false);
            }
        }
    }

    private static void ofABond() {
        sentence = "5: of a BOND, what 0 to 8";
        DeliveryBasket x = first(8);
        x.alter(3, 1, 12);
        int[] want = {SINK, 600, 8, 4, -30, 12, 0, 10000, 1};
        for (int what = 0; what < 9; what++) due("of(3, " + what + ")", x.of(3, what), want[what]);
        x.alter(3, 2, 1);
        due("barred", x.of(3, 6), 1);
        due("eligible", x.of(3, 8), 0);
        due("its factor all the same", x.of(3, 7), 10000);
    }

    private static void ofNone() {
        sentence = "5: NoSuchElementException: there is none such, another what";
        for (int size = 0; size <= 8; size++) {
            DeliveryBasket x = first(size);
            for (int b : notThere(size)) {
                for (int what : new int[] {-1, 0, 4, 8, 9}) none(size + " there, of(" + b + ", " + what + ")", () -> x.of(b, what));
            }
            for (int what : new int[] {-1, -2, 9, 10, LOW, HIGH}) none(size + " there, of(0, " + what + ")", () -> x.of(0, what));
        }
    }

    private static void noFlow() {
        sentence = "6: NONE: there are none such";
        for (int size = 0; size <= 8; size++) {
            DeliveryBasket x = first(size);
            for (int b : notThere(size)) due(size + " there, flow(" + b + ", 1)", x.flow(b, 1), NONE);
            for (int b = 0; b < size; b++) {
                int last = EIGHT[b][2];
                due("the last of " + b, x.flow(b, last) > 0, true);
                for (int t : new int[] {0, -1, last + 1, 41, LOW, HIGH}) due("flow(" + b + ", " + t + ")", x.flow(b, t), NONE);
            }
        }
    }

    private static void noPrice() {
        sentence = "7: NONE: there are none such";
        for (int size = 0; size <= 8; size++) {
            DeliveryBasket x = first(size);
            for (int b : notThere(size)) due(size + " there, price(" + b + ", 600)", x.price(b, 600), NONE);
            for (int b = 0; b < size; b++) {
                due("price(" + b + ", 600)", x.price(b, 600), EIGHT_PRICES[b]);
                for (int rate : new int[] {-1, 3001, LOW, HIGH}) due("price(" + b + ", " + rate + ")", x.price(b, rate), NONE);
            }
        }
        DeliveryBasket barred = zeros(1);
        barred.alter(0, 2, 1);
        due("of one that is not eligible", barred.price(0, 0), HUNDRED);
    }

    private static void theLeastRate() {
        sentence = "8: the least RATE at which PRICE is no more than p";
        DeliveryBasket x = of(new int[] {ZERO, 0, 1, 0, 0}, new int[] {ZERO, 0, 1, 0, -200}, new int[] {ZERO, 0, 1, 0, 200});
        int[][] want = {{0, HUNDRED, 0}, {0, HUNDRED + 1, 0}, {0, HIGH, 0}, {0, HUNDRED - 1, 1}, {0, 99990000, 1}, {0, 99989999, 2},
            {0, 76928995, 2999}, {0, 76928994, 2999}, {0, 76928993, 3000}, {0, 76923076, 3000}, {1, HUNDRED, 0}, {1, HUNDRED - 1, 201}, {2, 98039215, 0}, {2, 98039214, 1}};
        for (int[] w : want) due("rateOf(" + w[0] + ", " + w[1] + ")", x.rateOf(w[0], w[1]), w[2]);
        DeliveryBasket barred = zeros(1);
        barred.alter(0, 2, 1);
        due("of one that is not eligible", barred.rateOf(0, HUNDRED), 0);
    }

    private static void everyRate() {
        sentence = "8, 16: the least RATE, each of them";
        for (int from = 0; from <= 3000; from += 80) {
            DeliveryBasket x = zeros(1);   // both its price and its mark fall at each rate
            for (int rate = from; rate < from + 80 && rate <= 3000; rate++) {
                int price = x.price(0, rate);
                long mark = x.mark(rate);
                due("rateOf by the price at " + rate, x.rateOf(0, price), rate);
                due("rateOf by 1 less", x.rateOf(0, price - 1), rate < 3000 ? rate + 1 : NONE);
                due("implied by the mark at " + rate, x.implied(mark), rate);
                due("implied by 1 less", x.implied(mark - 1), rate < 3000 ? rate + 1 : NONE);
            }
        }
    }

    private static void noRate() {
        sentence = "8: NONE: by none; there is none such";
        DeliveryBasket x = of(new int[] {ZERO, 0, 1, 0, 0}, new int[] {ZERO, 0, 40, 0, 200});
        for (int p : new int[] {76923075, 0, -1, LOW}) due("by " + p, x.rateOf(0, p), NONE);
        due("by the least price", x.rateOf(1, 1502), 3000);
        due("by 1 less", x.rateOf(1, 1501), NONE);
        for (int size = 0; size <= 8; size++) {
            DeliveryBasket y = first(size);
            for (int b : notThere(size)) due(size + " there, rateOf(" + b + ")", y.rateOf(b, HIGH), NONE);
        }
    }

    // ---- the contract

    private static void anotherContract() {
        sentence = "9: THE CONTRACT is another one: true. false: it is that";
        int[][] others = {{601, 1, 40}, {600, 2, 40}, {600, 1, 39}, {0, 1, 40}, {3000, 1, 40}, {600, 40, 40}, {600, 1, 1}};
        for (int[] a : others) {
            DeliveryBasket x = new DeliveryBasket();
            due("the first again", x.contract(600, 1, 40), false);
            due("contract" + Arrays.toString(a), x.contract(a[0], a[1], a[2]), true);
            for (int k = 0; k < 3; k++) due("count(" + (k + 2) + ")", x.count(k + 2), a[k]);
            due("that again", x.contract(a[0], a[1], a[2]), false);
            due("back", x.contract(600, 1, 40), true);
        }
    }

    private static void noContract() {
        sentence = "9: false: numbers that can't be (LEAST above MOST, too)";
        int[][] bad = {{-1, 1, 40}, {3001, 1, 40}, {700, 0, 40}, {700, 1, 41}, {700, 41, 41}, {700, 0, 0}, {700, 2, 1}, {700, 40, 39}, {700, 40, 1},
            {LOW, 1, 40}, {HIGH, 1, 40}, {700, LOW, 40}, {700, HIGH, 40}, {700, 1, LOW}, {700, 1, HIGH}};
        DeliveryBasket x = first(8);
        for (int[] a : bad) due("contract" + Arrays.toString(a), x.contract(a[0], a[1], a[2]), false);
        for (int b = 0; b < 8; b++) due("factor of " + b, x.of(b, 7), EIGHT_FACTORS[b]);
        due("all are eligible", x.count(1), 255);
    }

    private static void counts() {
        sentence = "10: what 0 to 10; NONE for another what";
        DeliveryBasket x = first(8);
        for (int b = 0; b < 8; b++) x.alter(b, 1, 99);
        x.contract(3000, 2, 39);   // 1 and 40 periods are out
        x.tree(20, 3000, 50, -1000000, MOST_MARK);
        long[] want = {8, 1 + 2 + 4 + 8, 3000, 2, 39, 4 * 99, 20, 3000, 50, -1000000, MOST_MARK};
        for (int what = 0; what < want.length; what++) due("count(" + what + ")", x.count(what), want[what]);
        for (int what : new int[] {-1, -2, 11, 12, LOW, HIGH}) due("count(" + what + ")", x.count(what), NONE);
        x.contract(3000, 3, 4);
        due("eligible ones, there are none", x.count(1), 0);
        due("stocks of these", x.count(5), 0);
    }

    /** Baskets in which none is eligible, each for another reason. */
    private static DeliveryBasket[] noneEligible(int carry) {
        DeliveryBasket barred = zeros(1, 2);
        barred.alter(0, 2, 1);
        barred.alter(1, 2, 1);
        DeliveryBasket tooShort = zeros(1, 2);
        tooShort.contract(600, 3, 40);
        DeliveryBasket tooLong = zeros(2, 3);
        tooLong.contract(600, 1, 1);
        DeliveryBasket noFactor = zeros(40, 40);
        noFactor.contract(3000, 1, 40);
        DeliveryBasket dropped = zeros(1);
        dropped.drop(0);
        DeliveryBasket[] all = {new DeliveryBasket(), barred, tooShort, tooLong, noFactor, dropped};
        for (DeliveryBasket x : all) {
            x.tree(2, 600, 10, carry, HUNDRED);
            x.alter(0, 1, 9);
        }
        return all;
    }

    private static void noneIsEligible() {
        sentence = "11 to 28: none is ELIGIBLE";
        for (int carry : new int[] {0, 1000000, -1000000}) {
            for (DeliveryBasket x : noneEligible(carry)) {
                contractOfNone(x);
                treeOfNone(x);
            }
        }
    }
    private static void contractOfNone(DeliveryBasket x) {
        due("count(1)", x.count(1), 0);
        due("count(5)", x.count(5), 0);
        due("cheapest", x.cheapest(600), NONE);
        due("ranked", x.ranked(600, 0), NONE);
        due("mark", x.mark(600), NONE);
        none("gap", () -> x.gap(0, 600));
        due("switches", x.switches(0, 3000, NONE), NONE);
        due("switches from and to one", x.switches(600, 600, NONE), NONE);
        due("the first of the switches", x.switches(0, 3000, 0), NONE);
        due("implied by much", x.implied(Long.MAX_VALUE), NONE);
        due("implied by -1", x.implied(-1), NONE);
        due("meet none", x.meet(0, 600, 0, NONE), 1);
        due("meet one", x.meet(1, 600, 0, NONE), 0);
        due("cost of none", x.cost(0, 600, 0), 0);
        none("cost of one", () -> x.cost(1, 600, 0));
    }
    private static void treeOfNone(DeliveryBasket x) {
        due("rate", x.rate(2, 2), 620);
        none("value", () -> x.value(0, 0));
        none("value on the last day", () -> x.value(2, 2));
        due("act", x.act(0, 0), NONE);
        due("act on the last day", x.act(2, 0), NONE);
        due("path", x.path(0, false), NONE);
        due("path, the bond", x.path(3, true), NONE);
        for (int day = 0; day < 3; day++) {
            due("often", x.often(day), NONE);
            int asked = day;
            none("fixed", () -> x.fixed(asked));
        }
        none("only", () -> x.only(0));
        due("fair", x.fair(), NONE);
        if (x.count(0) > 0) {
            due("without one that is not eligible", x.without(0), 0);
            due("of it, none are met", x.meet(0, 600, 0, 0), 0);
            due("of it, one can't be met", x.meet(1, 600, 0, 0), NONE);
        } else {
            none("without one that is not there", () -> x.without(0));
            due("one that is not there", x.meet(0, 600, 0, 0), NONE);
        }
    }

    private static void theCheapest() {
        sentence = "11: CHEAPEST at a RATE. NONE: another RATE";
        DeliveryBasket x = first(8);   // switches at 593 and at 601
        int before = x.cheapest(592);
        due("0 as at 592", x.cheapest(0), before);
        due("592 and 593", x.cheapest(593) != before, true);
        due("600 and 601", x.cheapest(601) != x.cheapest(600), true);
        due("3000 as at 601", x.cheapest(3000), x.cheapest(601));
        for (int rate : new int[] {-1, -2, 3001, LOW, HIGH}) due("at " + rate, x.cheapest(rate), NONE);
        due("one alone", zeros(40).cheapest(3000), 0);
    }

    private static void theKth() {
        sentence = "12: the k-th ELIGIBLE one. NONE: not so many, another RATE";
        for (int size = 1; size <= 8; size++) {
            DeliveryBasket x = first(size);
            int seen = 0;
            for (int k = 0; k < size; k++) seen |= 1 << x.ranked(600, k);
            due("all of " + size + " in turn", seen, (1 << size) - 1);
            due("the first of " + size, x.ranked(600, 0), x.cheapest(600));
            for (int k : new int[] {-1, -2, size, size + 1, 8, LOW, HIGH}) due(k + " of " + size, x.ranked(600, k), NONE);
            for (int rate : new int[] {-1, 3001, LOW, HIGH}) due("at " + rate, x.ranked(rate, 0), NONE);
            x.alter(0, 2, 1);
            due("one is barred, the last of " + size, x.ranked(600, size - 1), NONE);
        }
    }

    private static void theMark() {
        sentence = "13: MARK at a RATE. NONE: another RATE";
        DeliveryBasket x = zeros(1);
        due("at 0", x.mark(0), 106010813);
        due("at 3000", x.mark(3000), 81546778);
        for (int rate : new int[] {-1, -2, 3001, LOW, HIGH}) due("at " + rate, x.mark(rate), NONE);
    }

    private static void theGap() {
        sentence = "14: PRICE less its INVOICE by MARK there. NoSuchElementException: it is not ELIGIBLE; another RATE";
        DeliveryBasket x = zeros(1, 2);
        x.contract(0, 1, 40);   // factors are 10,000, so the mark is the price of the longer one
        due("of the cheapest", x.gap(1, 3000), 0);
        due("of the other", x.gap(0, 3000), 76923076 - 59171596);
        due("of like ones", x.gap(1, 0), 0);
        for (int b : notThere(2)) none("gap(" + b + ", 600)", () -> x.gap(b, 600));
        for (int rate : new int[] {-1, 3001, LOW, HIGH}) none("gap(0, " + rate + ")", () -> x.gap(0, rate));
        x.alter(1, 2, 1);
        none("a barred one", () -> x.gap(1, 600));
        due("one beside a barred one", x.gap(0, 600), 0);
        x.alter(1, 2, 0);
        x.contract(0, 2, 2);
        none("one of too few periods", () -> x.gap(0, 600));
        x.contract(0, 1, 1);
        none("one of too many periods", () -> x.gap(1, 600));
        DeliveryBasket far = zeros(40, 1);
        far.contract(2590, 1, 40);
        none("one of factor 0", () -> far.gap(0, 600));
        far.contract(2589, 1, 40);
        due("beyond an int, by a mark of 1,000,000,000,000 or less", far.gap(1, 0) <= 1, true);
    }

    /** Two of one period each that change places again and again, as their prices are rounded: 1, 5, 6, 7, 9 .. 2998, 2999, 3000, in all 1493. */
    private static DeliveryBasket restless() { return of(new int[] {PLAIN, 200, 1, 0, 0}, new int[] {PLAIN, 500, 1, 0, 0}); }

    private static void fromAndTo() {
        sentence = "15: from one RATE (not it) up to another one (it, too)";
        DeliveryBasket x = restless();
        int[][] want = {{0, 0, 0}, {0, 1, 1}, {1, 1, 0}, {1, 4, 0}, {1, 5, 1}, {0, 4, 1}, {0, 5, 2}, {4, 5, 1}, {5, 5, 0}, {5, 7, 2}, {7, 8, 0}, {7, 9, 1},
            {2999, 3000, 1}, {3000, 3000, 0}, {2998, 3000, 2}, {2997, 2998, 1}, {0, 3000, 1493}};
        for (int[] w : want) due("switches(" + w[0] + ", " + w[1] + ", NONE)", x.switches(w[0], w[1], NONE), w[2]);
    }

    private static void theKthSwitch() {
        sentence = "15: (k NONE), or the k-th. NONE: not so many";
        DeliveryBasket x = restless();
        int[][] want = {{0, 3000, 0, 1}, {0, 3000, 1, 5}, {0, 3000, 2, 6}, {0, 3000, 4, 9}, {0, 3000, 1492, 3000}, {0, 3000, 1491, 2999}, {0, 3000, 1490, 2998},
            {0, 3000, 1493, NONE}, {0, 3000, HIGH, NONE}, {0, 3000, -2, NONE}, {0, 3000, LOW, NONE}, {1, 3000, 0, 5}, {0, 5, 1, 5}, {0, 4, 1, NONE},
            {0, 0, 0, NONE}, {3000, 3000, 0, NONE}, {2999, 3000, 0, 3000}, {2999, 3000, 1, NONE}};
        for (int[] w : want) due("switches(" + w[0] + ", " + w[1] + ", " + w[2] + ")", x.switches(w[0], w[1], w[2]), w[3]);
        due("one alone", zeros(3).switches(0, 3000, NONE), 0);
        due("one alone, the first", zeros(3).switches(0, 3000, 0), NONE);
    }

    private static void otherRatesToSwitch() {
        sentence = "15: NONE: other RATES, the first above the second";
        DeliveryBasket x = restless();
        int[][] bad = {{-1, 3000}, {0, 3001}, {-1, -1}, {3001, 3001}, {1, 0}, {3000, 0}, {3000, 2999}, {LOW, HIGH}, {HIGH, LOW}, {0, LOW}, {0, -1}, {3001, 0}};
        for (int[] a : bad) {
            due("switches(" + a[0] + ", " + a[1] + ", NONE)", x.switches(a[0], a[1], NONE), NONE);
            due("switches(" + a[0] + ", " + a[1] + ", 0)", x.switches(a[0], a[1], 0), NONE);
        }
    }

    private static void impliedRates() {
        sentence = "16: the least RATE at which MARK is no more than m. NONE: by none";
        DeliveryBasket x = zeros(1);
        long[][] want = {{106010813, 0}, {106010814, 0}, {1L << 32, 0}, {Long.MAX_VALUE, 0}, {106010812, 1}, {81546778, 3000}, {81546777, NONE},
            {0, NONE}, {-1, NONE}, {(1L << 32) * -1 + 106010813, NONE}, {Long.MIN_VALUE, NONE}};
        for (long[] w : want) due("implied(" + w[0] + ")", x.implied(w[0]), w[1]);
        DeliveryBasket far = zeros(40);
        far.contract(2589, 1, 40);
        due("beyond an int", far.implied(1000000000000L), 0);
        due("by 1 less", far.implied(999999999999L), 1);
        due("by an int's greatest", far.implied(HIGH), 1661);
    }

    private static void numbersToMeet() {
        sentence = "17: NONE: n is not 0 to 200, another RATE, m not 0 to 999,999,999, no such BOND";
        DeliveryBasket x = zeros(1, 2, 3);
        for (int b = 0; b < 3; b++) x.alter(b, 1, 99);
        int[][] good = {{0, 600, HUNDRED}, {200, 600, HUNDRED}, {5, 0, HUNDRED}, {5, 3000, HUNDRED}, {5, 600, 0}, {5, 600, MOST_MARK}};
        for (int[] a : good) {
            due("meet" + Arrays.toString(a), x.meet(a[0], a[1], a[2], NONE), 1);
            due("all together" + Arrays.toString(a), x.meet(a[0], a[1], a[2], 0) + x.meet(a[0], a[1], a[2], 1) + x.meet(a[0], a[1], a[2], 2), a[0]);
        }
        for (int b : new int[] {NONE, 0, 2}) {
            for (int n : new int[] {-1, 201, LOW, HIGH}) due("n " + n, x.meet(n, 600, HUNDRED, b), NONE);
            for (int rate : new int[] {-1, 3001, LOW, HIGH}) due("rate " + rate, x.meet(5, rate, HUNDRED, b), NONE);
            for (int m : new int[] {-1, MOST_MARK + 1, LOW, HIGH}) due("m " + m, x.meet(5, 600, m, b), NONE);
        }
        for (int b : new int[] {-2, 3, 8, LOW, HIGH}) {
            for (int n : new int[] {0, 5, 200}) due("bond " + b, x.meet(n, 600, HUNDRED, b), NONE);
        }
    }

    private static void ifItCanBe() {
        sentence = "17: (NONE) 1 if it can be at all, else 0. NONE: (a BOND) it can't be";
        DeliveryBasket x = zeros(1, 2, 3);
        x.alter(0, 1, 2);
        x.alter(1, 1, 3);
        x.alter(2, 1, 50);
        x.alter(2, 2, 1);
        due("as many as there are", x.meet(5, 600, HUNDRED, NONE), 1);
        due("of the first", x.meet(5, 600, HUNDRED, 0), 2);
        due("of the second", x.meet(5, 600, HUNDRED, 1), 3);
        due("of one that is not eligible", x.meet(5, 600, HUNDRED, 2), 0);
        due("one more", x.meet(6, 600, HUNDRED, NONE), 0);
        for (int b = 0; b < 3; b++) due("one more, of " + b, x.meet(6, 600, HUNDRED, b), NONE);
        due("as many as can be asked", x.meet(200, 600, HUNDRED, NONE), 0);
        for (int b = 0; b < 3; b++) due("none, of " + b, x.meet(0, 600, HUNDRED, b), 0);
    }

    private static void noCost() {
        sentence = "18: NoSuchElementException: it can't be, numbers as there";
        DeliveryBasket x = zeros(1, 2);
        x.alter(0, 1, 99);
        x.alter(1, 1, 98);
        due("none", x.cost(0, 0, 0), 0);
        due("one", x.cost(1, 0, 0), HUNDRED);
        due("as many as there are", x.cost(197, 0, 0), 197L * HUNDRED);
        none("one more", () -> x.cost(198, 0, 0));
        none("as many as can be asked", () -> x.cost(200, 0, 0));
        for (int n : new int[] {-1, 201, LOW, HIGH}) none("n " + n, () -> x.cost(n, 600, HUNDRED));
        for (int rate : new int[] {-1, 3001, LOW, HIGH}) {
            none("rate " + rate, () -> x.cost(1, rate, HUNDRED));
            none("none at rate " + rate, () -> x.cost(0, rate, HUNDRED));
        }
        for (int m : new int[] {-1, MOST_MARK + 1, LOW, HIGH}) {
            none("m " + m, () -> x.cost(1, 600, m));
            none("none by m " + m, () -> x.cost(0, 600, m));
        }
        due("by the greatest mark", x.cost(1, 0, MOST_MARK), HUNDRED - 943299999L);
        DeliveryBasket far = of(new int[] {STEP, 2000, 40, 100, 0});
        far.contract(0, 1, 40);
        far.alter(0, 1, 99);
        due("beyond an int", far.cost(99, 0, 0), 166320000000L);
        due("far below 0", far.cost(99, 0, MOST_MARK), 99 * (1680000000L - 16799999983L));
    }

    // ---- the choice of the day and the bond

    private static void anotherTree() {
        sentence = "19: THE TREE is another one: true. false: it is that";
        int[][] others = {{1, 600, 10, 0, HUNDRED}, {20, 600, 10, 0, HUNDRED}, {0, 601, 10, 0, HUNDRED}, {0, 0, 10, 0, HUNDRED}, {0, 3000, 10, 0, HUNDRED},
            {0, 600, 0, 0, HUNDRED}, {0, 600, 50, 0, HUNDRED}, {0, 600, 10, 1, HUNDRED}, {0, 600, 10, -1000000, HUNDRED}, {0, 600, 10, 1000000, HUNDRED},
            {0, 600, 10, 0, 0}, {0, 600, 10, 0, MOST_MARK}};
        for (int[] a : others) {
            DeliveryBasket x = new DeliveryBasket();
            due("the first again", x.tree(0, 600, 10, 0, HUNDRED), false);
            due("tree" + Arrays.toString(a), x.tree(a[0], a[1], a[2], a[3], a[4]), true);
            for (int k = 0; k < 5; k++) due("count(" + (k + 6) + ")", x.count(k + 6), a[k]);
            due("that again", x.tree(a[0], a[1], a[2], a[3], a[4]), false);
            due("back", x.tree(0, 600, 10, 0, HUNDRED), true);
        }
    }

    private static void noTree() {
        sentence = "19: false: numbers that can't be";
        int[][] bad = {{-1, 600, 10, 0, 5}, {21, 600, 10, 0, 5}, {1, -1, 10, 0, 5}, {1, 3001, 10, 0, 5}, {1, 600, -1, 0, 5}, {1, 600, 51, 0, 5},
            {1, 600, 10, -1000001, 5}, {1, 600, 10, 1000001, 5}, {1, 600, 10, 0, -1}, {1, 600, 10, 0, MOST_MARK + 1}};
        DeliveryBasket x = zeros(1);
        for (int[] a : bad) due("tree" + Arrays.toString(a), x.tree(a[0], a[1], a[2], a[3], a[4]), false);
        int[] first = {0, 600, 10, 0, HUNDRED};
        for (int k = 0; k < 5; k++) due("count(" + (k + 6) + ")", x.count(k + 6), first[k]);
    }

    private static final int[][] NOT_NODES = {{-1, 0}, {-1, -1}, {0, -1}, {0, 1}, {1, 2}, {3, 4}, {3, -1}, {4, 0}, {4, 4}, {21, 0}, {LOW, 0}, {HIGH, 0}, {3, LOW}, {3, HIGH}, {HIGH, HIGH}};

    private static void noNode() {
        sentence = "20, 21, 22: there is none such";
        DeliveryBasket x = zeros(1);
        x.tree(3, 600, 10, 0, HUNDRED);
        for (int d = 0; d <= 3; d++) {
            for (int u = 0; u <= d; u++) {
                due("rate(" + d + ", " + u + ")", x.rate(d, u), 600 + 10 * (2 * u - d));
                due("act(" + d + ", " + u + ") is -2 or a bond", x.act(d, u) != NONE, true);
                due("value(" + d + ", " + u + ") is NOW or more", x.value(d, u) >= 94330000 - x.price(0, x.rate(d, u)), true);
            }
        }
        for (int[] a : NOT_NODES) {
            due("rate(" + a[0] + ", " + a[1] + ")", x.rate(a[0], a[1]), NONE);
            none("value(" + a[0] + ", " + a[1] + ")", () -> x.value(a[0], a[1]));
            due("act(" + a[0] + ", " + a[1] + ")", x.act(a[0], a[1]), NONE);
        }
    }

    /** At 599 and below it delivers bond 0, at 600 and above it bond 1; carry makes it wait for the last day. */
    private static DeliveryBasket patient(int days) {
        DeliveryBasket x = zeros(1, 40);
        x.tree(days, 599, 1, -1000000, HUNDRED);
        return x;
    }

    private static void eachBitOfAPath() {
        sentence = "23: bit k of it 1: one up from DAY k to the next one";
        DeliveryBasket x = patient(20);
        due("no bits", x.path(0, true), 0);
        due("all bits", x.path((1 << 20) - 1, true), 1);
        for (int k = 0; k < 20; k++) {
            int ten = 0;
            for (int i = 1; i <= 10; i++) ten |= 1 << (k + i) % 20;
            due("ten up", x.path(ten, true), 0);
            due("ten up, and bit " + k, x.path(ten | 1 << k, true), 1);
            due("the day", x.path(ten | 1 << k, false), 20);
        }
    }

    private static void noPath() {
        sentence = "23: (DAYS bits) NONE: another path";
        for (int days : new int[] {0, 1, 2, 19, 20}) {
            DeliveryBasket x = patient(days);
            int last = (1 << days) - 1;
            due(days + " days, the first", x.path(0, false), days);
            due(days + " days, the last", x.path(last, false), days);
            for (int ups : new int[] {last + 1, 1 << 20, 1 << 30, -1, -2, LOW, LOW + 1, HIGH}) {
                due(days + " days, path(" + ups + ", false)", x.path(ups, false), NONE);
                due(days + " days, path(" + ups + ", true)", x.path(ups, true), NONE);
            }
        }
    }

    private static void theFirstDayOfAPath() {
        sentence = "23: the first DAY on which it DELIVERS, or the BOND";
        DeliveryBasket x = zeros(1, 40);
        x.tree(20, 599, 1, 1000000, HUNDRED);   // waiting never pays
        due("on day 0", x.path((1 << 20) - 1, false), 0);
        due("by the bond of day 0, whatever is above", x.path((1 << 20) - 1, true), 0);
        x.tree(0, 599, 1, 0, HUNDRED);
        due("no days", x.path(0, false), 0);
        due("no days, the bond", x.path(0, true), 0);
    }

    private static void howOften() {
        sentence = "24: on how many of all paths it DELIVERS first on a DAY. NONE: no such DAY";
        for (int days : new int[] {0, 1, 3, 20}) {
            DeliveryBasket waits = patient(days);
            DeliveryBasket hurries = zeros(1, 40);
            hurries.tree(days, 599, 1, 1000000, HUNDRED);
            for (int d = 0; d <= days; d++) {
                due(days + " days, it waits, often(" + d + ")", waits.often(d), d == days ? 1 << days : 0);
                due(days + " days, it does not, often(" + d + ")", hurries.often(d), d == 0 ? 1 << days : 0);
            }
            for (int d : new int[] {-1, -2, days + 1, 21, LOW, HIGH}) due(days + " days, often(" + d + ")", waits.often(d), NONE);
        }
        DeliveryBasket mixed = first(4);
        mixed.tree(20, 600, 40, 60000, HUNDRED);
        long all = 0;
        int daysThatCount = 0;
        for (int d = 0; d <= 20; d++) {
            all += mixed.often(d);
            if (mixed.often(d) > 0) daysThatCount++;
        }
        due("all days together", all, 1 << 20);
        due("more than one day has some", daysThatCount > 1, true);
    }

    private static void fixedDays() {
        sentence = "25: NOW there; ahead of it WAITING alone. NoSuchElementException: no such DAY";
        long now = 94330000 - 94339622;
        for (int days : new int[] {0, 1, 20}) {
            for (int carry : new int[] {1000000, -1000000}) {
                DeliveryBasket x = zeros(1);
                x.tree(days, 600, 0, carry, HUNDRED);
                for (int d = 0; d <= days; d++) due(days + " days, fixed(" + d + ")", x.fixed(d), now - (long) d * carry);
                for (int d : new int[] {-1, -2, days + 1, 21, LOW, HIGH}) none(days + " days, fixed(" + d + ")", () -> x.fixed(d));
            }
        }
    }

    private static void onlyOne() {
        sentence = "26: were a BOND alone ELIGIBLE. NoSuchElementException: it is not";
        DeliveryBasket x = zeros(1, 2, 40);
        x.tree(0, 600, 0, 0, HUNDRED);
        long[] now = {94330000 - 94339622, 88990000 - 88999643, 9720000 - 9722212};
        for (int b = 0; b < 3; b++) due("only(" + b + ")", x.only(b), now[b]);
        for (int b : notThere(3)) none("only(" + b + ")", () -> x.only(b));
        x.alter(0, 2, 1);
        none("a barred one", () -> x.only(0));
        due("another one", x.only(1), now[1]);
        x.alter(0, 2, 0);
        x.contract(600, 2, 39);
        none("one of too few periods", () -> x.only(0));
        none("one of too many periods", () -> x.only(2));
        due("the one between", x.only(1), now[1]);
        x.contract(2590, 1, 40);
        none("one of factor 0", () -> x.only(2));
        due("one beside it", x.only(0), 79420000 - 94339622);
    }

    private static void withoutOne() {
        sentence = "27: by how much VALUE would be less, were a BOND BARRED (0 if it is not ELIGIBLE, whatever else there is)";
        DeliveryBasket x = zeros(1, 2, 40);
        x.tree(0, 600, 0, 0, HUNDRED);   // now: -9,622, -9,643, -2,212
        due("the first", x.without(0), 0);
        due("the second", x.without(1), 0);
        due("the one that it delivers", x.without(2), 9622 - 2212);
        x.alter(2, 2, 1);
        due("one that is barred already", x.without(2), 0);
        due("the one that it delivers now", x.without(0), 9643 - 9622);
        x.alter(0, 2, 1);
        due("one that is barred, one other is eligible", x.without(0), 0);
        x.alter(1, 2, 1);
        for (int b = 0; b < 3; b++) due("none is eligible, without(" + b + ")", x.without(b), 0);
        due("twins", zeros(3, 3).without(0), 0);
    }

    private static void withoutNone() {
        sentence = "27: NoSuchElementException: there is none such; it is ELIGIBLE, and no other one is";
        for (int size = 0; size <= 8; size++) {
            DeliveryBasket x = first(size);
            for (int b : notThere(size)) none(size + " there, without(" + b + ")", () -> x.without(b));
        }
        none("one alone", () -> zeros(1).without(0));
        DeliveryBasket x = zeros(1, 2, 40);
        x.alter(0, 2, 1);
        x.contract(600, 1, 39);
        none("the others are not eligible", () -> x.without(1));
        due("one of these", x.without(0), 0);
        due("one of these", x.without(2), 0);
        none("one that is not there", () -> x.without(3));
    }

    private static void theLeastAgreed() {
        sentence = "28: the least AGREED by which VALUE of NODE 0, 0 is 0 or more";
        DeliveryBasket x = zeros(1);
        x.contract(0, 1, 40);
        x.tree(0, 0, 0, 0, 7);
        due("just 0", x.fair(), HUNDRED);
        due("what is agreed stays", x.count(10), 7);
        x.tree(0, 0, 0, 0, HUNDRED);
        due("the value by it", x.value(0, 0), 0);
        x.tree(0, 0, 0, 0, HUNDRED - 1);
        due("the value by 1 less", x.value(0, 0), -1);
        DeliveryBasket y = zeros(1);   // factor 9433, price 94,339,622
        int fair = y.fair();
        due("by a factor that is rounded", fair, 100010201);
        y.tree(0, 600, 0, 0, fair);
        due("the value by it", y.value(0, 0), 0);
        y.tree(0, 600, 0, 0, fair - 1);
        due("the value by 1 less", y.value(0, 0), -1);
        DeliveryBasket none = zeros(40);
        none.tree(1, 3000, 0, -2766, HUNDRED);
        due("0, where waiting pays what it costs", none.fair(), 0);
        none.tree(1, 3000, 0, -2765, HUNDRED);
        due("more, where it pays 1 less", none.fair(), 11);
        y.tree(20, 600, 50, 1000000, 0);
        due("where it pays to deliver at once", y.fair(), fair);
        y.tree(1, 600, 0, -1, 0);
        due("where it pays 1 to wait", y.fair(), 100010200);
        y.tree(1, 600, 0, 0, 0);
        due("where it is all one", y.fair(), fair);
    }

    private static void noAgreed() {
        sentence = "28: NONE: by none up to 999,999,999";
        DeliveryBasket x = of(new int[] {PLAIN, 2000, 40, 0, 0});   // at 140 its price is 666,726,264
        x.contract(3000, 1, 40);   // factor 6666
        x.tree(1, 140, 0, -126265, 0);   // so 666,599,999 are wanted
        due("just 999,999,999", x.fair(), MOST_MARK);
        x.tree(1, 140, 0, -126264, 0);   // 666,600,000: by 1,000,000,000
        due("it would be 1,000,000,000", x.fair(), NONE);
        x.tree(1, 140, 0, -126264, MOST_MARK);
        due("the value by the greatest", x.value(0, 0), -1);
        x.tree(0, 0, 0, 0, 0);
        due("it would be more", x.fair(), NONE);
    }

    public static void main(String[] args) {
        aNewObject();
        itsNumber();
        noNumber();
        howManyAreLeft();
        thoseBehindComeUp();
        aNewOneIsNew();
        dropOfNoneSuch();
        altered();
        alteredAlready();
        cantBeAltered();
        ofABond();
        ofNone();
        noFlow();
        noPrice();
        theLeastRate();
        everyRate();
        noRate();
        anotherContract();
        noContract();
        counts();
        noneIsEligible();
        theCheapest();
        theKth();
        theMark();
        theGap();
        fromAndTo();
        theKthSwitch();
        otherRatesToSwitch();
        impliedRates();
        numbersToMeet();
        ifItCanBe();
        noCost();
        anotherTree();
        noTree();
        noNode();
        eachBitOfAPath();
        noPath();
        theFirstDayOfAPath();
        howOften();
        fixedDays();
        onlyOne();
        withoutOne();
        withoutNone();
        theLeastAgreed();
        noAgreed();
        System.out.println(wrong == 0 ? "all answers are as due" : wrong + " answers are not as due");
        if (wrong != 0) System.exit(1);
    }
}
