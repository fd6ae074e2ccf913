import java.util.NoSuchElementException;

/** An object bears 512 calls after it has been made, whichever they are: the last one answers as the first. */
public final class BearTest {
    private static final int NONE = DeliveryBasket.NONE;
    private static final int HUNDRED = 100000000;
    private static final int CALLS = 512;
    private static int wrong = 0;

    private interface Ask { long of(DeliveryBasket x); }

    private static void due(String what, long got, long want) {
        if (got != want) {
            wrong++;
            System.out.println(what + " answered " + got + ", due is " + want);
        }
    }

    private static final int FILL = 10;
    private static DeliveryBasket full() {
        DeliveryBasket x = new DeliveryBasket();
        x.bond(0, 800, 10, 0, 0);
        x.bond(3, 0, 5, 0, 0);
        x.bond(1, 100, 20, 50, 20);
        x.bond(2, 600, 8, 4, -30);
        x.bond(0, 0, 1, 0, 200);
        x.bond(1, 2000, 40, 100, -200);
        x.bond(2, 2000, 40, 40, 0);
        x.bond(3, 0, 40, 0, 7);
        x.alter(7, 1, 99);
        x.tree(20, 600, 40, 60000, HUNDRED);
        return x;
    }

    private static void again(String what, Ask ask) {
        DeliveryBasket x = full();
        long first = ask.of(x);
        for (int call = FILL + 1; call < CALLS; call++) {
            long got = ask.of(x);
            if (got != first) {
                due(what + ", call " + (call + 1), got, first);
                return;
            }
        }
    }
    /** The same where the call throws each time. */
    private static void noneAgain(String what, Ask ask) {
        again(what, x -> {
            try {
                ask.of(x);
                return 0;
            } catch (NoSuchElementException e) {
                return 1;
            }
        });
    }

    private static void asking() {
        again("of", x -> x.of(7, 7));
        again("flow", x -> x.flow(5, 40));
        again("price", x -> x.price(5, 600));
        again("rateOf", x -> x.rateOf(5, HUNDRED));
        again("count", x -> x.count(1));
        again("cheapest", x -> x.cheapest(600));
        again("ranked", x -> x.ranked(600, 7));
        again("mark", x -> x.mark(600));
        again("gap", x -> x.gap(5, 600));
        again("switches", x -> x.switches(0, 3000, NONE));
        again("implied", x -> x.implied(HUNDRED));
        again("meet", x -> x.meet(99, 600, HUNDRED, 7));
        again("cost", x -> x.cost(99, 600, HUNDRED));
        again("rate", x -> x.rate(20, 20));
        again("value", x -> x.value(0, 0));
        again("act", x -> x.act(20, 20));
        again("path", x -> x.path((1 << 20) - 1, false));
        again("often", x -> x.often(20));
        again("fixed", x -> x.fixed(20));
        again("only", x -> x.only(7));
        again("without", x -> x.without(7));
        again("fair", x -> x.fair());
    }

    private static void refused() {
        again("bond", x -> x.bond(3, 0, 1, 0, 0));
        again("drop", x -> x.drop(8));
        again("alter", x -> x.alter(7, 1, 99) ? 1 : 0);
        again("contract", x -> x.contract(600, 1, 40) ? 1 : 0);
        again("tree", x -> x.tree(20, 600, 40, 60000, HUNDRED) ? 1 : 0);
        noneAgain("of", x -> x.of(8, 0));
        noneAgain("gap", x -> x.gap(8, 600));
        noneAgain("cost", x -> x.cost(100, 600, HUNDRED));
        noneAgain("value", x -> x.value(21, 0));
        noneAgain("fixed", x -> x.fixed(21));
        noneAgain("only", x -> x.only(8));
        noneAgain("without", x -> x.without(8));
    }

    private static void comingAndGoing() {
        DeliveryBasket x = full();
        for (int call = FILL; call + 2 < CALLS; call += 2) {
            due("drop", x.drop(call % 8), 7);
            due("bond", x.bond(3, 0, 1 + call % 40, 0, 0), 7);
        }
        due("the last one's periods", x.of(7, 2), 1 + (CALLS - 4) % 40);
        due("how many", x.count(0), 8);
        DeliveryBasket y = new DeliveryBasket();
        for (int call = 0; call < CALLS; call += 2) {
            due("bond", y.bond(3, 0, 1, 0, 0), 0);
            due("drop", y.drop(0), 0);
        }
    }

    private static void changing() {
        DeliveryBasket x = full();
        for (int call = FILL; call + 2 < CALLS; call++) due("alter", x.alter(7, 1, call % 2) ? 1 : 0, 1);
        due("its stock", x.of(7, 5), 1);
        DeliveryBasket y = full();
        for (int call = FILL; call + 2 < CALLS; call++) due("contract", y.contract(600 + call % 2, 1, 40) ? 1 : 0, call == FILL ? 0 : 1);
        due("a factor by 601", y.of(1, 7), 7469);
        DeliveryBasket z = full();
        for (int call = FILL; call + 2 < CALLS; call++) due("tree", z.tree(call % 21, call, call % 50, -call, call) ? 1 : 0, 1);
        due("the mark agreed", z.count(10), CALLS - 3);
        DeliveryBasket w = full();
        for (int call = FILL; call + 2 < CALLS; call += 2) {
            due("alter", w.alter(7, 2, call / 2 % 2) ? 1 : 0, 1);
            due("switches", w.switches(0, 3000, NONE) >= 0 ? 1 : 0, 1);
        }
    }

    public static void main(String[] args) {
        asking();
        refused();
        comingAndGoing();
        changing();
        System.out.println(wrong == 0 ? "all answers are as due" : wrong + " answers are not as due");
        if (wrong != 0) System.exit(1);
    }
}
