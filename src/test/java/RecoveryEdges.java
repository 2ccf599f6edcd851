import java.util.Arrays;

/** The edges of RECOVERY and of promises 28 to 31. */
final class RecoveryEdges {
    private static final int NONE = ServiceBudgets.NONE;
    private static final int LEAST_INT = Integer.MIN_VALUE;
    private static final int MOST_INT = Integer.MAX_VALUE;

    private RecoveryEdges() {
    }

    static void run() {
        inThought();
        canBeBegun();
        repairTime();
        byCrews();
        finishedFirst();
        bestOrderOfAll();
        severalBestOrders();
        recoveryTime();
        recoveryStart();
        bestCost();
        bestOrder();
    }

    /** Services with these repair times and importances, all of them down. */
    private static ServiceBudgets fallen(int[] times, int[] importances) {
        ServiceBudgets x = Make.many(times.length);
        for (int k = 0; k < times.length; k++) {
            x.set(3, k, times[k]);
            x.set(4, k, importances[k]);
            x.fail(k);
        }
        return x;
    }

    /** Twelve services of the greatest importance and repair time, all of them down. */
    private static ServiceBudgets allFallen() {
        int[] times = new int[12];
        int[] importances = new int[12];
        Arrays.fill(times, 20);
        Arrays.fill(importances, 9);
        return fallen(times, importances);
    }

    private static int[] numbers(int... values) {
        return values;
    }

    private static void starts(String what, ServiceBudgets x, int crews, int... due) {
        for (int service = 0; service < due.length; service++) {
            Expect.same(what + ", " + crews + " crews, service " + service, x.recoveryStart(crews, service),
                    due[service]);
        }
    }

    private static void best(String what, ServiceBudgets x, int cost, int... due) {
        Expect.same(what + ", bestCost()", x.bestCost(), cost);
        for (int place = 0; place < due.length; place++) {
            Expect.same(what + ", place " + place, x.bestOrder(place), due[place]);
        }
        Expect.same(what + ", behind the last place", x.bestOrder(due.length), NONE);
    }

    private static void inThought() {
        Sentences.about(0, "The services that are down can be repaired in thought, from moment 0 on, by crews.");
        starts("one of three", fallen(numbers(4), numbers(1)), 1, 0);
        ServiceBudgets x = Make.many(3);
        x.fail(1);
        starts("only those that are down", x, 1, NONE, 0, NONE);
        Twins.changesNothing("recoveryTime()", Make::busy, y -> y.recoveryTime(2));
        Twins.changesNothing("recoveryStart()", Make::busy, y -> y.recoveryStart(2, 1));
        Twins.changesNothing("bestCost()", Make::busy, y -> y.bestCost());
        Twins.changesNothing("bestOrder()", Make::busy, y -> y.bestOrder(1));
    }

    private static void canBeBegun() {
        Sentences.about(0, "A service can be begun when all services on which it depends and which are down now have "
                + "been finished.");
        ServiceBudgets x = fallen(numbers(1, 3, 5), numbers(9, 1, 1));
        starts("no calls", x, 3, 0, 0, 0);
        x.addCall(0, 1, 5, 1, 1);
        starts("one that is optional", x, 3, 3, 0, 0);
        x.addCall(0, 2, 5, 1, 2);
        starts("a replacement too", x, 3, 5, 0, 0);
        x.removeCall(1);
        x.addCall(1, 2, 5, 1, 0);
        starts("by way of another one", x, 3, 8, 5, 0);
        x.repair(1);
        x.steps(3);
        Expect.same("it stays down", x.down(), 7);
        ServiceBudgets y = Make.chain(3);
        y.fail(0);
        y.fail(2);
        starts("by way of one that is up", y, 4, 3, NONE, 0);
        y.repair(2);
        y.steps(2);
        Expect.same("the one between goes down", y.down(), 7);
        starts("as it is down now", y, 4, 6, 3, 0);
        y.steps(1);
        starts("on what is up none waits", y, 4, 3, 0, NONE);
    }

    private static void repairTime() {
        Sentences.about(0, "A crew needs the repair time of a service for it, from its beginning on (also if the "
                + "service is under repair now).");
        ServiceBudgets x = fallen(numbers(5, 20, 1), numbers(3, 2, 1));
        starts("not under repair", x, 1, 0, 5, 25);
        Expect.same("its end", x.recoveryTime(1), 26);
        x.repair(0);
        x.repair(1);
        x.steps(4);
        starts("under repair", x, 1, 0, 5, 25);
        Expect.same("its end, under repair", x.recoveryTime(1), 26);
        x.set(3, 1, 19);
        Expect.same("the repair time of now, not the rest", x.recoveryTime(1), 25);
    }

    private static void byCrews() {
        Sentences.about(0, "then, as long as there are a free crew and a service that can be begun and is not begun "
                + "yet, the one of them with the greatest importance is begun, of several the lowest one.");
        ServiceBudgets x = fallen(numbers(1, 1, 1, 1, 1, 1), numbers(5, 9, 1, 9, 5, 6));
        starts("by importance", x, 1, 3, 0, 5, 1, 4, 2);
        starts("by importance", x, 2, 1, 0, 2, 0, 2, 1);
        starts("by importance", x, 3, 1, 0, 1, 0, 1, 0);
        starts("by importance", x, 4, 0, 0, 1, 0, 1, 0);
        x.set(4, 0, 6);
        starts("one more with 6", x, 1, 2, 0, 5, 1, 4, 3);
        ServiceBudgets y = fallen(numbers(2, 2, 2, 2, 2), numbers(1, 1, 1, 1, 1));
        starts("all alike", y, 1, 0, 2, 4, 6, 8);
        starts("all alike", y, 4, 0, 0, 0, 0, 2);
        ServiceBudgets z = fallen(numbers(4, 1, 1), numbers(1, 1, 9));
        z.addCall(2, 0, 5, 1, 0);
        starts("a crew stays free when none can be begun", z, 2, 0, 0, 4);
        starts("the most important one must wait", z, 1, 0, 5, 4);
        Expect.same("all of them", z.recoveryTime(1), 6);
        ServiceBudgets busy = fallen(numbers(7, 3, 5, 5, 1), numbers(1, 1, 1, 1, 1));
        starts("one crew is free, the other one is not", busy, 2, 0, 0, 3, 7, 8);
        starts("one crew is free, two are not", busy, 3, 0, 0, 0, 3, 5);
    }

    private static void finishedFirst() {
        Sentences.about(0, "By crews: at each moment, beginning with 0, services whose time is over are finished "
                + "first");
        ServiceBudgets x = fallen(numbers(3, 3, 2), numbers(1, 1, 9));
        x.addCall(2, 0, 5, 1, 0);
        starts("the important one as soon as its callee is finished", x, 1, 0, 5, 3);
        starts("with a crew for each", x, 2, 0, 0, 3);
        x.set(3, 1, 4);
        starts("one crew is free in time", x, 2, 0, 0, 3);
        x.addCall(2, 1, 5, 1, 0);
        starts("the later one of two callees", x, 2, 0, 0, 4);
        starts("the second one of two callees", x, 1, 0, 3, 7);
    }

    private static void bestOrderOfAll() {
        Sentences.about(0, "In the best order one crew repairs them one after the other, each one behind those that "
                + "are down now and on which it depends, without breaks, such that the sum of importance times the "
                + "moment at which it is finished, over all of them, is as small as possible");
        best("the shorter one first", fallen(numbers(5, 4), numbers(1, 1)), 4 + 9, 1, 0);
        best("the more important one first", fallen(numbers(5, 5), numbers(1, 2)), 10 + 10, 1, 0);
        best("the greatest importance and the least time", fallen(numbers(20, 1), numbers(1, 9)), 9 + 21, 1, 0);
        ServiceBudgets x = fallen(numbers(1, 20), numbers(9, 1));
        x.addCall(0, 1, 5, 1, 1);
        best("behind the one on which it depends", x, 20 + 9 * 21, 1, 0);
        ServiceBudgets y = fallen(numbers(1, 5, 20), numbers(9, 1, 1));
        y.addCall(0, 1, 5, 1, 1);
        y.addCall(1, 2, 5, 1, 1);
        best("by way of another one", y, 20 + 25 + 9 * 26, 2, 1, 0);
        y.repair(1);
        y.steps(1);
        best("under repair now", y, 20 + 25 + 9 * 26, 2, 1, 0);
        y.steps(4);
        best("by way of one that is up", y, 20 + 9 * 21, 2, 0);
        y.removeCall(0);
        best("without the call", y, 9 + 21, 0, 2);
        ServiceBudgets z = fallen(numbers(2, 9, 1), numbers(1, 1, 9));
        z.addCall(2, 1, 5, 1, 0);
        best("a long one first for the sake of an important one", z, 9 + 9 * 10 + 12, 1, 2, 0);
    }

    private static void severalBestOrders() {
        Sentences.about(0, "of several such orders the one is taken whose first service is the lowest, then the "
                + "second one, and so on.");
        best("all alike", fallen(numbers(3, 3, 3, 3), numbers(2, 2, 2, 2)), 60, 0, 1, 2, 3);
        best("two alike in time by importance", fallen(numbers(4, 2), numbers(2, 1)), 14, 0, 1);
        best("the other way round", fallen(numbers(2, 4), numbers(1, 2)), 14, 0, 1);
        best("the second one by a little", fallen(numbers(4, 2), numbers(3, 2)), 2 * 2 + 3 * 6, 1, 0);
        best("the second place", fallen(numbers(20, 6, 3, 1), numbers(1, 4, 2, 9)), 9 + 28 + 20 + 30, 3, 1, 2, 0);
        ServiceBudgets x = fallen(numbers(2, 2, 2), numbers(3, 3, 3));
        x.addCall(0, 2, 5, 1, 1);
        best("the lowest one that can be first", x, 36, 1, 2, 0);
        x.addCall(1, 2, 5, 1, 1);
        best("behind the last one", x, 36, 2, 0, 1);
    }

    private static void recoveryTime() {
        Sentences.about(28, "Returns the moment at which all services that are down would be repaired by crews.");
        ServiceBudgets x = fallen(numbers(7, 3, 5), numbers(1, 1, 1));
        int[] due = {15, 8, 7, 7};
        for (int crews = 1; crews <= 4; crews++) {
            Expect.same(crews + " crews", x.recoveryTime(crews), due[crews - 1]);
        }
        Sentences.about(28, "- crews: the number of crews, 1 to 4");
        int[] all = {240, 120, 80, 60};
        for (int crews = 1; crews <= 4; crews++) {
            Expect.same(crews + " crews for 12", allFallen().recoveryTime(crews), all[crews - 1]);
        }
        Sentences.about(28, "Returns the moment; 0 if no service is down.");
        for (int crews = 1; crews <= 4; crews++) {
            Expect.same("no service", new ServiceBudgets().recoveryTime(crews), 0);
            Expect.same("none down", Make.full().recoveryTime(crews), 0);
            Expect.same("one down", fallen(numbers(1), numbers(1)).recoveryTime(crews), 1);
        }
        Sentences.about(28, "Throws IllegalArgumentException if crews is out of range");
        int[] outside = {0, 5, -1, LEAST_INT, MOST_INT};
        for (int crews : outside) {
            Twins.badArgument("crews " + crews, Make::busy, y -> y.recoveryTime(crews));
            Twins.badArgument("crews " + crews + " without services", ServiceBudgets::new, y -> y.recoveryTime(crews));
        }
    }

    private static void recoveryStart() {
        Sentences.about(29, "Returns the moment at which the repair of a service would begin.");
        starts("12 services", allFallen(), 4, 0, 0, 0, 0, 20, 20, 20, 20, 40, 40, 40, 40);
        Sentences.about(29, "- crews: the number of crews, 1 to 4");
        starts("12 services", allFallen(), 1, 0, 20, 40, 60, 80, 100, 120, 140, 160, 180, 200, 220);
        starts("12 services", allFallen(), 3, 0, 0, 0, 20, 20, 20, 40, 40, 40, 60, 60, 60);
        Sentences.about(29, "Returns the moment; NONE if the service is up.");
        for (int crews = 1; crews <= 4; crews++) {
            starts("two of four", Make.busy(), crews, NONE, 0, NONE, crews == 1 ? 3 : 0);
            starts("none down", Make.many(2), crews, NONE, NONE);
        }
        Sentences.about(29, "Throws IllegalArgumentException if crews is out of range");
        int[] outside = {0, 5, -1, LEAST_INT, MOST_INT};
        for (int crews : outside) {
            Twins.badArgument("crews " + crews, Make::busy, y -> y.recoveryStart(crews, 1));
            Twins.badArgument("crews " + crews + ", up", Make::busy, y -> y.recoveryStart(crews, 0));
            Twins.badArgument("crews " + crews + " ahead of service 4", Make::busy, y -> y.recoveryStart(crews, 4));
            Twins.badArgument("crews " + crews + " ahead of service -1", Make::busy, y -> y.recoveryStart(crews, -1));
            Twins.badArgument("crews " + crews + ", none", ServiceBudgets::new, y -> y.recoveryStart(crews, 0));
        }
        Sentences.about(29, "Throws IndexOutOfBoundsException if there is no such service");
        int[] none = {-1, 4, LEAST_INT, MOST_INT};
        for (int service : none) {
            Twins.noSuch("service " + service, Make::busy, y -> y.recoveryStart(1, service));
            Twins.noSuch("service " + service + ", 4 crews", Make::busy, y -> y.recoveryStart(4, service));
        }
        Twins.noSuch("service 12", Make::full, y -> y.recoveryStart(4, 12));
        Expect.same("service 11", allFallen().recoveryStart(1, 11), 220);
    }

    private static void bestCost() {
        Sentences.about(30, "Returns the sum for the best order.");
        Expect.same("the least sum of one", fallen(numbers(1), numbers(1)).bestCost(), 1);
        Expect.same("the greatest sum of one", fallen(numbers(20), numbers(9)).bestCost(), 180);
        Expect.same("the greatest sum there can be", allFallen().bestCost(), 180 * 78);
        ServiceBudgets x = fallen(numbers(2, 3), numbers(1, 1));
        Expect.same("two", x.bestCost(), 2 + 5);
        x.undo();
        Expect.same("one less", x.bestCost(), 2);
        Sentences.about(30, "Returns the sum; 0 if no service is down.");
        Expect.same("no service", new ServiceBudgets().bestCost(), 0);
        Expect.same("none down", Make.full().bestCost(), 0);
        ServiceBudgets y = allFallen();
        y.bestCost();
        for (int service = 0; service < 12; service++) {
            y.repair(service);
        }
        y.steps(20);
        Expect.same("none down any more", y.bestCost(), 0);
    }

    private static void bestOrder() {
        Sentences.about(31, "Returns a service of the best order.");
        best("12 alike", allFallen(), 180 * 78, 0, 1, 2, 3, 4, 5, 6, 7, 8, 9, 10, 11);
        Sentences.about(31, "- place: from 0");
        Expect.same("the first place", Make.busy().bestOrder(0), 1);
        Expect.same("the last place", Make.busy().bestOrder(1), 3);
        Sentences.about(31, "Returns the service; NONE if there is no such place.");
        int[] none = {-1, 2, 3, LEAST_INT, MOST_INT};
        for (int place : none) {
            Expect.same("place " + place + " of two", Make.busy().bestOrder(place), NONE);
        }
        Expect.same("place 12 of 12", allFallen().bestOrder(12), NONE);
        Expect.same("place 0, none down", Make.full().bestOrder(0), NONE);
        Expect.same("place 0, no service", new ServiceBudgets().bestOrder(0), NONE);
    }
}
