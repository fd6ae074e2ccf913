import java.util.ArrayList;
import java.util.Arrays;
import java.util.List;
import java.util.NoSuchElementException;

/**
 * What no call may do, in every state that matters: a call that is refused, or that only asks, leaves all that other
 * calls show as it was; NoSuchElementException is thrown where the document names it and nowhere else; nothing else
 * is thrown, whatever the arguments are. Each look at an object is on a new one, so that none bears more than 512 calls.
 */
public final class RefusalTest {
    private static final int NONE = DeliveryBasket.NONE;
    private static final int HUNDRED = 100000000;
    private static final int[] EDGES = {Integer.MIN_VALUE, Integer.MIN_VALUE + 1, -1000000001, -1000001, -1000000, -201, -200, -3, -2, -1, 0, 1, 2, 3, 4, 5,
        7, 8, 9, 10, 11, 20, 21, 31, 32, 33, 40, 41, 50, 51, 99, 100, 101, 200, 201, 600, 2000, 2001, 3000, 3001, 3200, 3201, 1000000, 1000001, 1 << 20,
        HUNDRED, 999999999, 1000000000, Integer.MAX_VALUE - 1, Integer.MAX_VALUE};
    private static final String[] NAMES = {"bond", "drop", "alter", "of", "flow", "price", "rateOf", "contract", "count",
        "cheapest", "ranked", "mark", "gap", "switches", "implied", "meet", "cost", "tree", "rate", "value", "act",
        "path", "often", "fixed", "only", "without", "fair"};
    private static final int[] PARAMETERS = {5, 1, 3, 2, 2, 2, 2, 3, 1, 1, 2, 1, 2, 3, 1, 4, 3, 5, 2, 2, 2, 2, 1, 1, 1, 1, 0};
    /** From these the arguments of a call are moved to the edges, one or two at a time. */
    private static final int[][] BASES = {{0, 500, 5, 0, 0}, {0}, {0, 1, 5}, {0, 7}, {0, 1}, {0, 600}, {0, HUNDRED}, {700, 2, 30}, {0}, {600}, {600, 0}, {600}, {0, 600},
        {590, 610, NONE}, {HUNDRED}, {2, 600, HUNDRED, 0}, {2, 600, HUNDRED}, {3, 500, 20, 100, HUNDRED}, {0, 0}, {0, 0}, {0, 0}, {0, 1}, {0}, {0}, {0}, {0}, {}};
    private static final List<String> CHANGING = List.of("bond", "drop", "alter", "contract", "tree");
    private static int wrong = 0;

    private static void fault(String text) {
        wrong++;
        if (wrong <= 40) System.out.println(text);
    }

    // ---- the states

    private static final int STATES = 9;

    private static void mixed(DeliveryBasket x) {
        x.bond(0, 800, 10, 0, 0);
        x.bond(3, 0, 5, 0, 0);
        x.bond(1, 100, 20, 50, 20);
        x.bond(2, 600, 8, 4, -30);
        x.alter(0, 1, 3);
        x.alter(1, 1, 99);
        x.alter(2, 1, 2);
    }
    private static void fill(DeliveryBasket x) {
        mixed(x);
        x.bond(0, 0, 1, 0, 200);
        x.bond(1, 2000, 40, 100, -200);
        x.bond(2, 2000, 40, 40, 0);
        x.bond(3, 0, 40, 0, 7);
    }
    private static DeliveryBasket make(int state) {
        DeliveryBasket x = new DeliveryBasket();
        switch (state) {
            case 0: break;
            case 1: x.bond(3, 0, 1, 0, 0); break;
            case 2: x.bond(3, 0, 40, 0, 200); x.contract(2590, 1, 40); break;   // not eligible: a factor of 0
            case 3: mixed(x); x.tree(3, 600, 40, 60000, HUNDRED); break;
            case 4: mixed(x); x.alter(1, 2, 1); x.contract(650, 6, 20); x.tree(1, 0, 50, -1, 0); break;
            case 5: fill(x); x.tree(20, 3000, 50, -1000000, 999999999); break;
            case 6: fill(x); x.drop(2); x.drop(0); x.contract(0, 1, 40); x.switches(560, 640, NONE); x.tree(4, 10, 7, 1000000, 1); break;
            case 7: fill(x); x.contract(600, 2, 4); x.tree(2, 600, 10, 0, HUNDRED); break;   // full, none is eligible
            default: fill(x); for (int b = 1; b < 8; b++) x.alter(b, 2, 1); x.tree(2, 590, 9, 5, HUNDRED);   // full, one is eligible
        }
        return x;
    }

    // ---- all that calls show

    private static String ask(DeliveryBasket x, String name, int... a) {
        try {
            switch (name) {
                case "bond": return "" + x.bond(a[0], a[1], a[2], a[3], a[4]);
                case "drop": return "" + x.drop(a[0]);
                case "alter": return "" + x.alter(a[0], a[1], a[2]);
                case "of": return "" + x.of(a[0], a[1]);
                case "flow": return "" + x.flow(a[0], a[1]);
                case "price": return "" + x.price(a[0], a[1]);
                case "rateOf": return "" + x.rateOf(a[0], a[1]);
                case "contract": return "" + x.contract(a[0], a[1], a[2]);
                case "count": return "" + x.count(a[0]);
                case "cheapest": return "" + x.cheapest(a[0]);
                case "ranked": return "" + x.ranked(a[0], a[1]);
                case "mark": return "" + x.mark(a[0]);
                case "gap": return "" + x.gap(a[0], a[1]);
                case "switches": return "" + x.switches(a[0], a[1], a[2]);
                case "implied": return "" + x.implied(a[0]);
                case "meet": return "" + x.meet(a[0], a[1], a[2], a[3]);
                case "cost": return "" + x.cost(a[0], a[1], a[2]);
                case "tree": return "" + x.tree(a[0], a[1], a[2], a[3], a[4]);
                case "rate": return "" + x.rate(a[0], a[1]);
                case "value": return "" + x.value(a[0], a[1]);
                case "act": return "" + x.act(a[0], a[1]);
                case "path": return "" + x.path(a[0], a[1] % 2 != 0);
                case "often": return "" + x.often(a[0]);
                case "fixed": return "" + x.fixed(a[0]);
                case "only": return "" + x.only(a[0]);
                case "without": return "" + x.without(a[0]);
                default: return "" + x.fair();
            }
        } catch (RuntimeException e) {
            return e.getClass() == NoSuchElementException.class ? "throws" : "throws " + e;
        }
    }

    private static String shownOfBonds(DeliveryBasket x) {
        StringBuilder all = new StringBuilder();
        for (int what = 0; what <= 10; what++) all.append(x.count(what)).append(' ');
        int size = x.count(0);
        for (int b = 0; b < size; b++) {
            for (int what = 0; what <= 8; what++) all.append(x.of(b, what)).append(' ');
            for (int t : new int[] {1, 2, 5, 10, 20, 40}) all.append(x.flow(b, t)).append(' ');
            for (int rate : new int[] {0, 600, 3000}) all.append(x.price(b, rate)).append(' ');
            all.append(x.rateOf(b, HUNDRED)).append(' ').append(ask(x, "gap", b, 600)).append(' ');
        }
        return all.toString();
    }
    private static String shownOfTheContract(DeliveryBasket x) {
        StringBuilder all = new StringBuilder();
        for (int rate : new int[] {0, 500, 700, 3000}) {
            all.append(x.cheapest(rate)).append(' ').append(x.mark(rate)).append(' ');
            for (int k = 0; k < 8; k++) all.append(x.ranked(rate, k)).append(' ');
        }
        all.append(x.switches(560, 640, NONE)).append(' ').append(x.switches(560, 640, 0)).append(' ').append(x.implied(HUNDRED)).append(' ');
        for (int n : new int[] {0, 1, 4, 100}) {
            for (int b = NONE; b < 8; b++) all.append(x.meet(n, 600, HUNDRED, b)).append(' ');
            all.append(ask(x, "cost", n, 600, HUNDRED)).append(' ');
        }
        return all.toString();
    }
    private static String shownOfTheTree(DeliveryBasket x) {
        StringBuilder all = new StringBuilder();
        int days = x.count(6);
        for (int d = 0; d <= days; d++) {
            for (int u = 0; u <= d; u += Math.max(1, d)) {
                all.append(x.rate(d, u)).append(' ').append(ask(x, "value", d, u)).append(' ').append(x.act(d, u)).append(' ');
            }
            all.append(x.often(d)).append(' ').append(ask(x, "fixed", d)).append(' ');
        }
        for (int ups : new int[] {0, 1, 2, (1 << days) - 1}) all.append(x.path(ups, false)).append(' ').append(x.path(ups, true)).append(' ');
        for (int b = 0; b < 8; b++) all.append(ask(x, "only", b)).append(' ').append(ask(x, "without", b)).append(' ');
        return all.append(x.fair()).toString();
    }
    /** On two objects of the same calls, since all of it is more than one needs to bear. */
    private static String shown(int state, String name, int[] a) {
        DeliveryBasket x = make(state);
        DeliveryBasket y = make(state);
        if (name != null) {
            ask(x, name, a);
            ask(y, name, a);
        }
        return shownOfBonds(x) + "| " + shownOfTheContract(x) + "| " + shownOfTheTree(y);
    }

    // ---- the arguments

    private static List<int[]> arguments(int call) {
        List<int[]> all = new ArrayList<>();
        int[] base = BASES[call];
        all.add(base.clone());
        for (int i = 0; i < PARAMETERS[call]; i++) {
            for (int v : EDGES) {
                int[] one = base.clone();
                one[i] = v;
                all.add(one);
                for (int j = i + 1; j < PARAMETERS[call]; j++) {
                    for (int w : EDGES) {
                        int[] two = one.clone();
                        two[j] = w;
                        all.add(two);
                    }
                }
            }
        }
        return all;
    }
    private static String written(int state, int call, int[] a) {
        return "state " + state + ": " + NAMES[call] + Arrays.toString(a);
    }

    // ---- where NoSuchElementException is due

    private static boolean in(long number, long from, long to) { return from <= number && number <= to; }

    /** By what count() says (of bonds, eligible ones, their stocks, days): as the document names it. */
    private static boolean dueToThrow(int[] counts, String name, int[] a) {
        int eligible = counts[1];
        boolean there = a.length > 0 && in(a[0], 0, counts[0] - 1);
        boolean isEligible = there && (eligible >> a[0] & 1) == 1;
        switch (name) {
            case "of": return !there || !in(a[1], 0, 8);
            case "gap": return !isEligible || !in(a[1], 0, 3000);
            case "cost": return !in(a[0], 0, 200) || !in(a[1], 0, 3000) || !in(a[2], 0, 999999999) || a[0] > counts[2];
            case "value": return eligible == 0 || !in(a[0], 0, counts[3]) || !in(a[1], 0, a[0]);
            case "fixed": return eligible == 0 || !in(a[0], 0, counts[3]);
            case "only": return !isEligible;
            case "without": return !there || isEligible && Integer.bitCount(eligible) == 1;
            default: return false;
        }
    }

    private static void throwsThereAndNowhereElse(int state, int call) {
        DeliveryBasket x = make(state);
        int[] counts = {x.count(0), x.count(1), x.count(5), x.count(6)};
        int borne = 0;
        for (int[] a : arguments(call)) {
            boolean due = dueToThrow(counts, NAMES[call], a);
            String got = ask(x, NAMES[call], a);
            if (due != got.equals("throws") || got.startsWith("throws ")) {
                fault(written(state, call, a) + " answered " + got + (due ? ", due is a NoSuchElementException" : ", nothing is to be thrown"));
            }
            borne++;
            if (borne == 400 || changed(NAMES[call], got)) {
                x = make(state);
                borne = 0;
            }
        }
    }

    // ---- what changes nothing

    /** Calls that change something answer so; of all others nothing is to be seen afterwards. */
    private static boolean changed(String name, String answer) {
        switch (name) {
            case "bond": case "drop": return !answer.equals("-1");
            case "alter": case "contract": case "tree": return answer.equals("true");
            default: return false;
        }
    }

    private static void changesNothing(String before, int state, int call, int[] a) {
        if (!changed(NAMES[call], ask(make(state), NAMES[call], a)) && !before.equals(shown(state, NAMES[call], a))) {
            fault(written(state, call, a) + " changed what other calls show");
        }
    }

    private static void othersChangeNothing() {
        for (int state = 0; state < STATES; state++) {
            String before = shown(state, null, null);
            for (int call = 0; call < NAMES.length; call++) {
                boolean asks = !CHANGING.contains(NAMES[call]);
                changesNothing(before, state, call, BASES[call]);
                for (int i = 0; i < PARAMETERS[call]; i++) {
                    // Of the calls that only ask a few are enough, not to look too long.
                    for (int k = 0; k < EDGES.length; k += asks ? 9 : 1) {
                        int[] a = BASES[call].clone();
                        a[i] = EDGES[k];
                        changesNothing(before, state, call, a);
                    }
                }
            }
        }
    }

    /** The other way round: a call that says that it changed something did. */
    private static void changesAreSeen() {
        for (int state = 0; state < STATES; state++) {
            String before = shown(state, null, null);
            for (String name : CHANGING) {
                int call = Arrays.asList(NAMES).indexOf(name);
                int[] a = BASES[call];
                boolean said = changed(name, ask(make(state), name, a));
                if (said != !before.equals(shown(state, name, a))) fault(written(state, call, a) + " said " + said);
            }
        }
    }

    public static void main(String[] args) {
        for (int state = 0; state < STATES; state++) {
            for (int call = 0; call < NAMES.length; call++) throwsThereAndNowhereElse(state, call);
        }
        changesAreSeen();
        othersChangeNothing();
        System.out.println(wrong == 0 ? "all answers are as due" : wrong + " answers are not as due");
        if (wrong != 0) System.exit(1);
    }
}
