import java.lang.management.ManagementFactory;

/**
 * All calls of a run share one room of some 7.3 million fields and elements, 8 bytes each at the most: so many objects
 * as an object may get calls have to fit in it well, and no other call may make much anew.
 */
public final class RoomTest {
    private static final int CALLS = 512;
    private static final long ROOM = 7_300_000L * 8;
    /** Room for the tables that a first call makes, and for what the Java machine itself makes meanwhile. */
    private static final long LITTLE = ROOM / 64;

    private static final com.sun.management.ThreadMXBean THREADS =
            (com.sun.management.ThreadMXBean) ManagementFactory.getThreadMXBean();

    public static void main(String[] args) {
        measure("the constructor", ROOM / 2, () -> new ServiceBudgets().services());
        ServiceBudgets x = Make.chain(12);
        for (int k = 0; k < 11; k++) {
            x.addCall(k, k + 1, 500, 3, k % 3);
        }
        measure("request()", LITTLE, () -> x.request(0, 1000) ? 1 : 0);
        measure("leastBudget()", LITTLE, () -> x.leastBudget(0));
        measure("tighten()", LITTLE, () -> x.tighten());
        measure("spread()", LITTLE, () -> x.spread(11));
        measure("calm()", LITTLE, () -> x.calm(11));
        measure("cuts()", LITTLE, () -> x.cuts(0, 3));
        measure("cut()", LITTLE, () -> x.cut(0, 3, 5));
        measure("availability()", LITTLE, () -> x.availability(0));
        measure("weakest()", LITTLE, () -> x.weakest(0));
        measure("set()", LITTLE, () -> x.set(0, 3, 9));
        measure("undo()", LITTLE, () -> x.set(0, 3, 9) + x.undo());
        Make.write(x, "p0,1,2;p0,2,3;p0,3,4;s50;s50;");
        measure("execute()", LITTLE, () -> x.execute());
        Make.write(x, "p0,1,2;p0,2,3;p0,3,4;s50;s50;d99;");
        measure("execute() refused", LITTLE, () -> x.execute());
        for (int k = 0; k < 12; k++) {
            x.fail(k);
        }
        measure("steps()", LITTLE, () -> x.steps(50));
        measure("recoveryTime()", LITTLE, () -> x.recoveryTime(3));
        measure("bestCost()", LITTLE, () -> x.bestCost());
        measure("bestOrder()", LITTLE, () -> x.bestOrder(11));
        measure("digest()", LITTLE, () -> x.digest());
        measure("an exception", LITTLE, () -> refused(x));
        Expect.finish();
    }

    private static long refused(ServiceBudgets x) {
        try {
            return x.fail(12);
        } catch (IndexOutOfBoundsException e) {
            return 0;
        }
    }

    private static void measure(String name, long most, Expect.Action action) {
        long thread = Thread.currentThread().getId();
        long before = THREADS.getThreadAllocatedBytes(thread);
        for (int k = 0; k < CALLS; k++) {
            action.run();
        }
        long bytes = THREADS.getThreadAllocatedBytes(thread) - before;
        Expect.yes(name + " takes " + bytes + " bytes, at most " + most, bytes <= most);
    }
}
