import java.lang.management.ManagementFactory;

/** What an object and its 512 calls take of the room: the rows of the object, and nothing call by call. */
public final class RoomTest {
    private static final com.sun.management.ThreadMXBean THREADS = (com.sun.management.ThreadMXBean) ManagementFactory.getThreadMXBean();
    private static final long OBJECT_BYTES = 40_000;
    private static final long ALL_BYTES = 200_000;
    private static int wrong = 0;

    private static void atMost(String what, long got, long most) {
        if (got > most) {
            wrong++;
            System.out.println(what + " took " + got + " bytes, at most " + most + " are due");
        }
    }

    private static long taken() { return THREADS.getThreadAllocatedBytes(Thread.currentThread().getId()); }

    /** Bonds come and go, and every dear call is made on those that are there. */
    private static long dearCalls(DeliveryBasket x, int calls) {
        long sum = 0;
        for (int call = 0; call < calls; call++) {
            switch (call % 16) {
                case 0: sum += x.drop(call % 3); break;
                case 1: case 2: sum += x.bond(call / 16 % 3, 100 * (call % 20), 40, call / 16 % 3 == 0 ? 0 : 9, call % 200); break;
                case 3: sum += x.switches(0, 3000, -1); break;
                case 4: sum += x.fair(); break;
                case 5: sum += x.implied(call); break;
                case 6: sum += x.ranked(call, 1); break;
                case 7: sum += x.meet(0, 600, call, 0); break;
                case 8: sum += x.cost(0, 600, call); break;
                case 9: sum += x.tree(20, call, 50, 1, call) ? 1 : 0; break;
                case 10: sum += x.without(0); break;
                case 11: sum += x.often(20); break;
                case 12: sum += x.path(call, true); break;
                case 13: sum += x.fixed(20); break;
                case 14: sum += x.gap(0, call); break;
                default: sum += x.rateOf(0, call);
            }
        }
        return sum;
    }

    private static DeliveryBasket two() {
        DeliveryBasket x = new DeliveryBasket();
        x.bond(0, 500, 40, 0, 0);
        x.bond(3, 0, 30, 0, 0);
        return x;
    }

    public static void main(String[] args) {
        dearCalls(two(), 512);
        taken();
        long before = taken();
        DeliveryBasket x = new DeliveryBasket();
        long made = taken();
        atMost("a new object", made - before, OBJECT_BYTES);
        DeliveryBasket y = two();
        before = taken();
        dearCalls(y, 510);
        atMost("the calls", taken() - before, ALL_BYTES);
        System.out.println(wrong == 0 ? "the room is enough" : wrong + " faults" + x.count(0));
        if (wrong != 0) System.exit(1);
    }
}
