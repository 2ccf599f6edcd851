/** Promises 32 to 36. */
public final class WithoutTimeTest {
    private static final int NONE = ServiceBudgets.NONE;

    public static void main(String[] args) {
        failsBy();
        cuts();
        manyCuts();
        availability();
        availabilityOfMany();
        weakest();
        Expect.finish();
    }

    /** Service 0 needs 1 or 2, and 3; 3 can do without 4. */
    private static ServiceBudgets example() {
        ServiceBudgets x = Make.many(5);
        x.addCall(0, 1, 5, 1, 0);
        x.addCall(0, 2, 5, 1, 2);
        x.addCall(3, 4, 5, 1, 1);
        x.addCall(0, 3, 5, 1, 0);
        return x;
    }

    // Promise 32
    private static void failsBy() {
        ServiceBudgets x = example();
        Expect.no("32 by none", x.failsBy(0, 0));
        Expect.yes("32 by itself", x.failsBy(0, 1));
        Expect.no("32 by one of two", x.failsBy(0, 2));
        Expect.no("32 by the other one of two", x.failsBy(0, 4));
        Expect.yes("32 by both", x.failsBy(0, 6));
        Expect.yes("32 by a needed one", x.failsBy(0, 8));
        Expect.no("32 by an optional one", x.failsBy(0, 16));
        Expect.no("32 by a caller", x.failsBy(3, 1 + 2 + 4 + 16));
        x.fail(3);
        Expect.no("32 what is down plays no part", x.failsBy(0, 2));
        Expect.yes("32 along a chain", Make.chain(12).failsBy(0, 1 << 11));
        Expect.no("32 along a chain the other way", Make.chain(12).failsBy(11, (1 << 11) - 1));
        Expect.noSuch("32 service -1", () -> x.failsBy(-1, 0) ? 1 : 0);
        Expect.noSuch("32 service 5 comes ahead of the set", () -> x.failsBy(5, 32) ? 1 : 0);
        Expect.badArgument("32 set 32", () -> x.failsBy(0, 32) ? 1 : 0);
        Expect.badArgument("32 set 33", () -> x.failsBy(0, 33) ? 1 : 0);
        Expect.badArgument("32 set -1", () -> x.failsBy(0, -1) ? 1 : 0);
        Expect.badArgument("32 set with the last bit alone", () -> x.failsBy(0, Integer.MIN_VALUE) ? 1 : 0);
        Expect.yes("32 all services", x.failsBy(0, 31));
        Expect.yes("32 all of twelve", Make.many(12).failsBy(3, 4095));
        Expect.badArgument("32 a thirteenth", () -> Make.many(12).failsBy(3, 4096) ? 1 : 0);
    }

    // Promises 33 and 34
    private static void cuts() {
        ServiceBudgets x = example();
        x.fail(3);
        Expect.same("33 cuts(0, 1)", x.cuts(0, 1), 2);
        Expect.same("34 cut(0, 1, 0)", x.cut(0, 1, 0), 1);
        Expect.same("34 cut(0, 1, 1)", x.cut(0, 1, 1), 8);
        Expect.same("34 cut(0, 1, 2)", x.cut(0, 1, 2), NONE);
        Expect.same("34 cut(0, 1, -1)", x.cut(0, 1, -1), NONE);
        Expect.same("33 cuts(0, 2)", x.cuts(0, 2), 1);
        Expect.same("34 cut(0, 2, 0)", x.cut(0, 2, 0), 6);
        Expect.same("33 cuts(0, 3)", x.cuts(0, 3), 0);
        Expect.same("33 cuts(0, 12)", x.cuts(0, 12), 0);
        Expect.same("34 cut(0, 12, 0)", x.cut(0, 12, 0), NONE);
        Expect.same("33 cuts(3, 1)", x.cuts(3, 1), 1);
        Expect.same("34 cut(3, 1, 0)", x.cut(3, 1, 0), 8);
        Expect.same("33 cuts(3, 2)", x.cuts(3, 2), 0);
        Expect.noSuch("33 service -1", () -> x.cuts(-1, 1));
        Expect.noSuch("33 service 5 comes ahead of the size", () -> x.cuts(5, 0));
        Expect.badArgument("33 size 0", () -> x.cuts(0, 0));
        Expect.badArgument("33 size 13", () -> x.cuts(0, 13));
        Expect.noSuch("34 service -1", () -> x.cut(-1, 1, 0));
        Expect.noSuch("34 service 5 comes ahead of the size", () -> x.cut(5, 0, 0));
        Expect.badArgument("34 size 0", () -> x.cut(0, 0, 0));
        Expect.badArgument("34 size 13 comes ahead of k", () -> x.cut(0, 13, -1));
        x.set(0, 0, 2);
        x.removeCall(1);
        Expect.same("33 after a change", x.cuts(0, 1), 3);
        x.undo();
        Expect.same("33 after undo()", x.cuts(0, 1), 2);
    }

    /** Service 0 needs one of 1 to 6, and 1 needs one of 7 to 11. */
    private static void manyCuts() {
        ServiceBudgets x = Make.many(12);
        for (int k = 1; k <= 6; k++) {
            x.addCall(0, k, 5, 1, k == 1 ? 0 : 2);
        }
        for (int k = 7; k <= 11; k++) {
            x.addCall(1, k, 5, 1, k == 7 ? 0 : 2);
        }
        int[] due = {1, 0, 0, 0, 0, 1, 0, 0, 0, 1, 0, 0};
        for (int size = 1; size <= 12; size++) {
            Expect.same("33 cuts(0, " + size + ")", x.cuts(0, size), due[size - 1]);
        }
        Expect.same("34 cut(0, 6, 0)", x.cut(0, 6, 0), 126);
        Expect.same("34 cut(0, 10, 0)", x.cut(0, 10, 0), 124 + 0xF80);
        ServiceBudgets y = Make.many(12);
        for (int k = 1; k <= 5; k++) {
            y.addCall(0, k, 5, 1, k == 1 ? 0 : 2);
            y.addCall(k, k + 6, 5, 1, 0);
        }
        Expect.same("33 one of each pair", y.cuts(0, 5), 32);
        Expect.same("34 the first of them", y.cut(0, 5, 0), 62);
        Expect.same("34 the second of them", y.cut(0, 5, 1), 60 + (1 << 7));
        Expect.same("34 the last of them", y.cut(0, 5, 31), 0xF80);
        Expect.same("34 none behind it", y.cut(0, 5, 32), NONE);
        ServiceBudgets z = Make.chain(12);
        Expect.same("33 each of a chain", z.cuts(0, 1), 12);
        Expect.same("34 the last of a chain", z.cut(0, 1, 11), 1 << 11);
        Expect.same("34 none behind the last of a chain", z.cut(0, 1, 12), NONE);
        Expect.same("34 far behind it", z.cut(0, 1, Integer.MAX_VALUE), NONE);
        Expect.same("33 no set with one service too many", z.cuts(11, 2), 0);
    }

    // Promise 35
    private static void availability() {
        ServiceBudgets x = Make.many(1);
        x.set(5, 0, 500);
        Expect.same("35 one half", x.availability(0), 0x3F000000);
        x.set(5, 0, 1000);
        Expect.same("35 one", x.availability(0), 0x3F800000);
        x.set(5, 0, 0);
        Expect.same("35 zero", x.availability(0), 0);
        for (int reliability = 1; reliability < 1000; reliability += 7) {
            x.set(5, 0, reliability);
            Expect.same("35 " + reliability, x.availability(0), Float.floatToIntBits((float) (reliability / 1000.0)));
        }
        ServiceBudgets y = Make.many(3);
        y.addCall(0, 1, 5, 1, 0);
        y.addCall(0, 2, 5, 1, 2);
        y.set(5, 0, 500);
        y.set(5, 1, 500);
        y.set(5, 2, 500);
        Expect.same("35 three eighths", y.availability(0), Float.floatToIntBits(0.375f));
        y.fail(0);
        Expect.same("35 what is down plays no part", y.availability(0), Float.floatToIntBits(0.375f));
        Expect.noSuch("35 service -1", () -> y.availability(-1));
        Expect.noSuch("35 service 3", () -> y.availability(3));
    }

    private static void availabilityOfMany() {
        ServiceBudgets x = Make.chain(12);
        double product = 1.0;
        for (int k = 0; k < 12; k++) {
            x.set(5, k, 1);
            product = product * (1 / 1000.0);
        }
        Expect.same("35 nearly zero", x.availability(0), Float.floatToIntBits((float) product));
        ServiceBudgets y = Make.many(12);
        for (int k = 0; k < 12; k++) {
            y.set(5, k, 37 + 80 * k);
        }
        for (int k = 0; k < 12; k++) {
            Expect.same("35 one of many", y.availability(k), Float.floatToIntBits((float) sum(y, k)));
        }
    }

    /** The document's sum for a service without calls. */
    private static double sum(ServiceBudgets x, int service) {
        double a = 0.0;
        for (int set = 0; set < 1 << x.services(); set++) {
            double p = 1.0;
            for (int k = 0; k < x.services(); k++) {
                int reliability = x.service(k, 5);
                p = p * ((set & 1 << k) == 0 ? reliability / 1000.0 : (1000 - reliability) / 1000.0);
            }
            a = (set & 1 << service) == 0 ? a + p : a;
        }
        return a;
    }

    // Promise 36
    private static void weakest() {
        ServiceBudgets x = Make.chain(2);
        x.set(5, 0, 900);
        x.set(5, 1, 800);
        Expect.same("36 the callee", x.weakest(0), 1);
        Expect.same("36 a service without calls", x.weakest(1), 1);
        x.set(5, 0, 700);
        Expect.same("36 the service itself", x.weakest(0), 0);
        x.set(5, 0, 0);
        x.set(5, 1, 0);
        Expect.same("36 of several the lowest", x.weakest(0), 0);
        x.set(5, 1, 10);
        Expect.same("36 only the other one helps", x.weakest(0), 0);
        ServiceBudgets z = Make.many(2);
        z.set(5, 0, 500);
        z.set(5, 1, 1000);
        Expect.same("36 all the same when it never fails", z.weakest(1), 0);
        ServiceBudgets y = Make.many(4);
        y.addCall(3, 0, 5, 1, 1);
        y.addCall(3, 1, 5, 1, 0);
        y.addCall(3, 2, 5, 1, 2);
        y.set(5, 0, 10);
        y.set(5, 0, 500);
        y.set(5, 1, 500);
        y.set(5, 2, 500);
        y.set(5, 3, 875);
        Expect.same("36 the lowest one of a pair", y.weakest(3), 1);
        Expect.same("36 reliability stays", y.service(1, 5), 500);
        y.set(5, 3, 625);
        Expect.same("36 the service itself then", y.weakest(3), 3);
        y.fail(3);
        Expect.same("36 what is down plays no part", y.weakest(3), 3);
        Expect.noSuch("36 service -1", () -> y.weakest(-1));
        Expect.noSuch("36 service 4", () -> y.weakest(4));
    }
}
