import java.util.Arrays;
import java.util.function.IntPredicate;
import java.util.function.ToDoubleFunction;

/** The edges of WITHOUT TIME and of promises 32 to 36. */
final class SetEdges {
    private static final int NONE = ServiceBudgets.NONE;
    private static final int LEAST_INT = Integer.MIN_VALUE;
    private static final int MOST_INT = Integer.MAX_VALUE;
    private static final int[] NO_SERVICE = {-1, 4, LEAST_INT, MOST_INT};

    private SetEdges() {
    }

    static void run() {
        failsBySentence();
        cutSentence();
        availabilitySentence();
        failsBy();
        cuts();
        cut();
        availability();
        weakest();
        severalWeakest();
    }

    /** Service 0 needs 1 or 2 or 3, and 4, which needs 5; it can do without 6. */
    private static ServiceBudgets groups() {
        ServiceBudgets x = Make.many(7);
        x.addCall(0, 1, 5, 1, 0);
        x.addCall(4, 5, 5, 1, 0);
        x.addCall(0, 2, 5, 1, 2);
        x.addCall(0, 3, 5, 1, 2);
        x.addCall(0, 6, 5, 1, 1);
        x.addCall(0, 4, 5, 1, 0);
        return x;
    }

    private static int set(int... services) {
        int set = 0;
        for (int service : services) {
            set |= 1 << service;
        }
        return set;
    }

    private static void failsBySentence() {
        Sentences.about(0, "For a set D of services, a service fails by D if it belongs to D, or has a group whose "
                + "first call is needed and in which the callees of all calls fail by D (which services are down now "
                + "plays no part).");
        Expect.no("by none", groups().failsBy(0, 0));
        Expect.yes("it belongs to it", groups().failsBy(0, set(0)));
        Expect.yes("it belongs to it, without calls", groups().failsBy(6, set(6)));
        Expect.no("one of a group of three", groups().failsBy(0, set(1)));
        Expect.no("two of a group of three", groups().failsBy(0, set(1, 3)));
        Expect.no("the other two of a group of three", groups().failsBy(0, set(2, 3)));
        Expect.yes("a group of three", groups().failsBy(0, set(1, 2, 3)));
        Expect.yes("a group of one", groups().failsBy(0, set(4)));
        Expect.yes("one that fails by the set", groups().failsBy(0, set(5)));
        Expect.no("what is optional", groups().failsBy(0, set(6)));
        Expect.no("all but what matters", groups().failsBy(0, set(1, 2, 6)));
        Expect.no("its callers", groups().failsBy(5, set(0, 1, 2, 3, 4, 6)));
        ServiceBudgets x = groups();
        x.fail(0);
        x.fail(4);
        Expect.no("down now", x.failsBy(0, 0));
        x.addCall(0, 6, 5, 1, 2);
        Expect.no("a needed one that has a replacement now", x.failsBy(0, set(4)));
        Expect.yes("with its replacement", x.failsBy(0, set(4, 6)));
    }

    private static void cutSentence() {
        Sentences.about(0, "A cut of a service s is a set D of services by which s fails, but not by any set that "
                + "has one service less than D (and no others).");
        int[][] due = {{set(0), set(4), set(5)}, {}, {set(1, 2, 3)}, {}, {}, {}, {}};
        for (int size = 1; size <= 7; size++) {
            Expect.same("how many of size " + size, groups().cuts(0, size), due[size - 1].length);
            for (int k = 0; k < due[size - 1].length; k++) {
                Expect.same("cut " + k + " of size " + size, groups().cut(0, size, k), due[size - 1][k]);
            }
        }
        Expect.same("of a service without calls", groups().cuts(5, 1), 1);
        Expect.same("it is the service itself", groups().cut(5, 1, 0), set(5));
        Expect.same("none with another one", groups().cuts(5, 2), 0);
        ServiceBudgets x = groups();
        x.fail(4);
        Expect.same("down now plays no part", x.cuts(0, 1), 3);
    }

    /** The document's sum, word by word. */
    private static double sum(int[] reliabilities, IntPredicate failsBy) {
        double a = 0.0;
        for (int set = 0; set < 1 << reliabilities.length; set++) {
            if (!failsBy.test(set)) {
                double p = 1.0;
                for (int x = 0; x < reliabilities.length; x++) {
                    boolean without = (set >> x & 1) == 0;
                    double q = without ? reliabilities[x] / 1000.0 : (1000 - reliabilities[x]) / 1000.0;
                    p = p * q;
                }
                a = a + p;
            }
        }
        return a;
    }

    /** The sum for a service of groups(). */
    private static double sumOfGroups(int[] reliabilities, int service) {
        ServiceBudgets x = groups();
        return sum(reliabilities, set -> x.failsBy(service, set));
    }

    /** The sum for a service without calls. */
    private static double sumAlone(int[] reliabilities, int service) {
        return sum(reliabilities, set -> (set >> service & 1) == 1);
    }

    private static ServiceBudgets reliable(ServiceBudgets x, int[] reliabilities) {
        for (int k = 0; k < reliabilities.length; k++) {
            x.set(5, k, reliabilities[k]);
        }
        return x;
    }

    private static int bits(double a) {
        return Float.floatToIntBits((float) a);
    }

    private static void availabilitySentence() {
        Sentences.about(0, "The availability of a service s is computed like this, in double arithmetic: a = 0.0; "
                + "for each set D of services by which s does not fail");
        int[][] reliabilities = {{990, 990, 990, 990, 990, 990, 990}, {1, 2, 3, 4, 5, 6, 7},
            {999, 1, 998, 2, 997, 3, 500}, {333, 667, 143, 857, 91, 909, 77}, {1000, 0, 1000, 0, 1000, 999, 0},
            {0, 1000, 1000, 1000, 1000, 1000, 1000},
            {1000, 1000, 1000, 1000, 1000, 1000, 1000}, {0, 0, 0, 0, 0, 0, 0}};
        for (int[] row : reliabilities) {
            ServiceBudgets x = reliable(groups(), row);
            for (int service = 0; service < 7; service++) {
                Expect.same("service " + service + " of a row", x.availability(service),
                        bits(sumOfGroups(row, service)));
            }
        }
        for (int count = 1; count <= 12; count++) {
            int[] row = new int[count];
            for (int k = 0; k < count; k++) {
                row[k] = 991 - 83 * k;
            }
            ServiceBudgets x = reliable(Make.many(count), row);
            Expect.same("the last one of " + count, x.availability(count - 1), bits(sumAlone(row, count - 1)));
            Expect.same("the first one of " + count, x.availability(0), bits(sumAlone(row, 0)));
        }
    }

    private static void failsBy() {
        Sentences.about(32, "Tells whether a service fails by a set of services.");
        Expect.yes("all of 12", Make.full().failsBy(11, 4095));
        Expect.no("all of 12 but one", Make.full().failsBy(11, 2047));
        Expect.yes("the only one", Make.many(1).failsBy(0, 1));
        Twins.changesNothing("failsBy()", Make::busy, x -> x.failsBy(0, 15) ? 1 : 0);
        Sentences.about(32, "- set: the set, bit k for service k");
        for (int k = 0; k < 12; k++) {
            for (int service = 0; service < 12; service++) {
                Expect.yes("service " + service + " by " + k, Make.many(12).failsBy(service, 1 << k) == (service == k));
            }
        }
        Sentences.about(32, "Returns true if it does.");
        Expect.yes("along a chain", Make.chain(12).failsBy(0, 1 << 11));
        Expect.no("not back along it", Make.chain(12).failsBy(11, 2047));
        Sentences.about(32, "Throws IndexOutOfBoundsException if there is no such service");
        for (int service : NO_SERVICE) {
            Twins.noSuch("service " + service, Make::busy, x -> x.failsBy(service, 0) ? 1 : 0);
            Twins.noSuch("service " + service + " ahead of the set", Make::busy, x -> x.failsBy(service, 16) ? 1 : 0);
        }
        Twins.noSuch("service 12", Make::full, x -> x.failsBy(12, 0) ? 1 : 0);
        Sentences.about(32, "Throws IllegalArgumentException if set contains a bit that is no service");
        for (int bit = 4; bit < 32; bit++) {
            int set = 1 << bit;
            Twins.badArgument("bit " + bit, Make::busy, x -> x.failsBy(0, set) ? 1 : 0);
            Expect.badArgument("bit " + bit + " and all services", () -> Make.busy().failsBy(0, set | 15) ? 1 : 0);
        }
        Twins.badArgument("all bits", Make::busy, x -> x.failsBy(0, -1) ? 1 : 0);
        Twins.badArgument("bit 12 of 12 services", Make::full, x -> x.failsBy(0, 4096) ? 1 : 0);
        Twins.badArgument("bit 31 of 12 services", Make::full, x -> x.failsBy(0, LEAST_INT) ? 1 : 0);
        Twins.badArgument("bit 1 of one service", () -> Make.many(1), x -> x.failsBy(0, 2) ? 1 : 0);
        Expect.yes("all services", Make.busy().failsBy(0, 15));
        Expect.yes("the last one", Make.busy().failsBy(3, 8));
    }

    /** Service 0 needs one of all others; so many services. */
    private static ServiceBudgets anyOf(int count) {
        ServiceBudgets x = Make.many(count);
        for (int callee = 1; callee < count; callee++) {
            x.addCall(0, callee, 5, 1, callee == 1 ? 0 : 2);
        }
        return x;
    }

    private static void cuts() {
        Sentences.about(33, "Counts the cuts of a service.");
        Expect.same("of a chain", Make.chain(12).cuts(0, 1), 12);
        Expect.same("in the middle of a chain", Make.chain(12).cuts(6, 1), 6);
        Expect.same("at the end of a chain", Make.chain(12).cuts(11, 1), 1);
        Twins.changesNothing("cuts()", Make::busy, x -> x.cuts(0, 1));
        Sentences.about(33, "- size: the number of services in a cut, 1 to 12");
        for (int count = 2; count <= 12; count++) {
            for (int size = 1; size <= 12; size++) {
                int due = (size == 1 ? 1 : 0) + (size == count - 1 ? 1 : 0);
                Expect.same("size " + size + " of " + count + " services", anyOf(count).cuts(0, size), due);
            }
        }
        Sentences.about(33, "Returns how many cuts of this size there are.");
        Expect.same("size 1 of one service", Make.many(1).cuts(0, 1), 1);
        Expect.same("more than there are services", Make.many(1).cuts(0, 2), 0);
        Expect.same("size 12 of one service", Make.many(1).cuts(0, 12), 0);
        Sentences.about(33, "Throws IndexOutOfBoundsException if there is no such service");
        for (int service : NO_SERVICE) {
            Twins.noSuch("service " + service, Make::busy, x -> x.cuts(service, 1));
            Twins.noSuch("service " + service + " ahead of size 0", Make::busy, x -> x.cuts(service, 0));
            Twins.noSuch("service " + service + " ahead of size 13", Make::busy, x -> x.cuts(service, 13));
        }
        Twins.noSuch("service 12", Make::full, x -> x.cuts(12, 1));
        Sentences.about(33, "Throws IllegalArgumentException if size is out of range");
        int[] outside = {0, 13, -1, 33, LEAST_INT, MOST_INT};
        for (int size : outside) {
            Twins.badArgument("size " + size, Make::busy, x -> x.cuts(0, size));
            Twins.badArgument("size " + size + " of 12 services", Make::full, x -> x.cuts(0, size));
        }
    }

    private static void cut() {
        Sentences.about(34, "Returns a cut of a service; the cuts of a size are in ascending order of the numbers "
                + "whose bits are their services.");
        ServiceBudgets x = Make.many(5);
        x.addCall(0, 1, 5, 1, 0);
        x.addCall(0, 2, 5, 1, 2);
        x.addCall(1, 4, 5, 1, 0);
        x.addCall(2, 3, 5, 1, 0);
        int[] due = {set(1, 2), set(1, 3), set(2, 4), set(3, 4)};
        Expect.same("how many", x.cuts(0, 2), 4);
        for (int k = 0; k < 4; k++) {
            Expect.same("cut " + k, x.cut(0, 2, k), due[k]);
        }
        Twins.changesNothing("cut()", Make::busy, y -> y.cut(0, 1, 0));
        Sentences.about(34, "- size: the number of services in a cut, 1 to 12");
        Expect.same("size 1", anyOf(12).cut(0, 1, 0), 1);
        Expect.same("size 11", anyOf(12).cut(0, 11, 0), 4094);
        Expect.same("size 12", anyOf(12).cut(0, 12, 0), NONE);
        Sentences.about(34, "- k: its number, from 0");
        for (int k = 0; k < 12; k++) {
            Expect.same("cut " + k + " of a chain", Make.chain(12).cut(0, 1, k), 1 << k);
        }
        Sentences.about(34, "Returns the cut; NONE if there is no such cut.");
        int[] none = {-1, 12, 13, LEAST_INT, MOST_INT};
        for (int k : none) {
            Expect.same("cut " + k + " of a chain", Make.chain(12).cut(0, 1, k), NONE);
            Expect.same("cut " + k + " of size 2", Make.chain(12).cut(0, 2, k), NONE);
        }
        Expect.same("cut 4 of four", x.cut(0, 2, 4), NONE);
        Sentences.about(34, "Throws IndexOutOfBoundsException if there is no such service");
        for (int service : NO_SERVICE) {
            Twins.noSuch("service " + service, Make::busy, y -> y.cut(service, 1, 0));
            Twins.noSuch("service " + service + " ahead of the size", Make::busy, y -> y.cut(service, 0, -1));
        }
        Twins.noSuch("service 12", Make::full, y -> y.cut(12, 1, 0));
        Sentences.about(34, "Throws IllegalArgumentException if size is out of range");
        int[] outside = {0, 13, -1, LEAST_INT, MOST_INT};
        for (int size : outside) {
            Twins.badArgument("size " + size, Make::busy, y -> y.cut(0, size, 0));
            Twins.badArgument("size " + size + " of none", Make::busy, y -> y.cut(0, size, -1));
        }
    }

    private static void availability() {
        Sentences.about(35, "Returns the availability of a service.");
        ServiceBudgets x = Make.chain(2);
        x.set(5, 0, 500);
        x.set(5, 1, 500);
        Expect.same("one half", x.availability(1), 0x3F000000);
        Expect.same("one quarter", x.availability(0), 0x3E800000);
        x.fail(0);
        Expect.same("down now plays no part", x.availability(0), 0x3E800000);
        Twins.changesNothing("availability()", Make::busy, y -> y.availability(0));
        Sentences.about(35, "Returns the bits of (float) a, as Float.floatToIntBits gives them.");
        ServiceBudgets y = Make.many(1);
        for (int reliability = 0; reliability <= 240; reliability++) {
            y.set(5, 0, reliability * 25 / 6);
            Expect.same("reliability " + reliability * 25 / 6, y.availability(0), bits(reliability * 25 / 6 / 1000.0));
        }
        ServiceBudgets z = Make.chain(12);
        double product = 1.0;
        for (int k = 0; k < 12; k++) {
            z.set(5, k, 1);
            product = product * (1 / 1000.0);
        }
        Expect.same("the least but 0", z.availability(0), bits(product));
        z.set(5, 11, 0);
        Expect.same("0", z.availability(0), 0);
        ServiceBudgets all = Make.many(12);
        for (int k = 0; k < 12; k++) {
            all.set(5, k, 1000);
        }
        Expect.same("1", all.availability(7), 0x3F800000);
        Sentences.about(35, "Throws IndexOutOfBoundsException if there is no such service");
        for (int service : NO_SERVICE) {
            Twins.noSuch("service " + service, Make::busy, w -> w.availability(service));
        }
        Twins.noSuch("service 12", Make::full, w -> w.availability(12));
        int[] initial = new int[12];
        Arrays.fill(initial, 990);
        Expect.same("service 11", Make.full().availability(11), bits(sumAlone(initial, 11)));
    }

    private static void weakest() {
        Sentences.about(36, "Finds the service whose reliability matters most: the one for which the availability of "
                + "the given service (in double arithmetic) would be the greatest if this reliability were 1000");
        int[][] reliabilities = {{900, 500, 500, 500, 880, 890, 10}, {700, 500, 500, 500, 880, 890, 10},
            {900, 10, 20, 30, 950, 890, 10}, {900, 500, 500, 500, 999, 998, 10}, {1000, 500, 600, 700, 1000, 1000, 0}};
        for (int[] row : reliabilities) {
            ServiceBudgets x = reliable(groups(), row);
            for (int service = 0; service < 7; service++) {
                int s = service;
                int due = literalWeakest(row, r -> sumOfGroups(r, s));
                Expect.same("service " + s + " of a row", x.weakest(s), due);
            }
        }
        weakestByRounding();
        Twins.changesNothing("weakest()", Make::busy, x -> x.weakest(0));
        Sentences.about(36, "Returns the service.");
        Expect.same("the only one", Make.many(1).weakest(0), 0);
        for (int service = 0; service < 12; service++) {
            Expect.same("one of 12 without calls", Make.many(12).weakest(service), service);
        }
        ServiceBudgets last = Make.chain(12);
        last.set(5, 11, 989);
        Expect.same("the end of a chain", last.weakest(0), 11);
        Sentences.about(36, "Throws IndexOutOfBoundsException if there is no such service");
        for (int service : NO_SERVICE) {
            Twins.noSuch("service " + service, Make::busy, x -> x.weakest(service));
        }
        Twins.noSuch("service 12", Make::full, x -> x.weakest(12));
    }

    /** The given service never fails: the sums differ in nothing but the last bits of double arithmetic. */
    private static void weakestByRounding() {
        int[][] reliabilities = {{562, 1000, 966, 238, 222}, {767, 262, 823, 1000, 720}, {1000, 420, 283, 580},
            {1000, 803, 925, 698, 52}, {410, 100, 574, 1000, 57}, {429, 966, 187, 324, 1000}};
        int[] given = {1, 3, 0, 0, 3, 4};
        int[] due = {3, 2, 2, 4, 1, 2};
        for (int k = 0; k < given.length; k++) {
            int[] row = reliabilities[k];
            int service = given[k];
            Expect.same("the literal one by the last bits", literalWeakest(row, r -> sumAlone(r, service)), due[k]);
            Expect.same("by the last bits", reliable(Make.many(row.length), row).weakest(service), due[k]);
        }
    }

    private static int literalWeakest(int[] reliabilities, ToDoubleFunction<int[]> availability) {
        int best = NONE;
        double greatest = 0.0;
        for (int perfect = 0; perfect < reliabilities.length; perfect++) {
            int[] row = reliabilities.clone();
            row[perfect] = 1000;
            double chance = availability.applyAsDouble(row);
            if (best == NONE || chance > greatest) {
                best = perfect;
                greatest = chance;
            }
        }
        return best;
    }

    private static void severalWeakest() {
        Sentences.about(36, "of several the lowest one.");
        ServiceBudgets x = Make.many(3);
        x.set(5, 0, 500);
        x.set(5, 1, 1000);
        Expect.same("one that never fails", x.weakest(1), 0);
        x.set(5, 1, 0);
        x.set(5, 2, 0);
        x.addCall(1, 2, 5, 1, 0);
        Expect.same("0 whatever is mended", x.weakest(1), 0);
        x.set(5, 2, 1000);
        Expect.same("only one helps", x.weakest(1), 1);
        ServiceBudgets y = Make.many(4);
        y.addCall(3, 1, 5, 1, 0);
        y.addCall(3, 2, 5, 1, 0);
        y.set(5, 3, 1000);
        y.set(5, 2, 500);
        y.set(5, 1, 500);
        y.set(5, 0, 0);
        Expect.same("two alike", y.weakest(3), 1);
        y.set(5, 2, 499);
        Expect.same("the higher one by a little", y.weakest(3), 2);
    }
}
