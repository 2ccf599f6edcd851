/** Promises 22 to 31. */
public final class SpreadingTest {
    private static final int NONE = ServiceBudgets.NONE;

    public static void main(String[] args) {
        fail();
        repair();
        strain();
        groups();
        lowTolerance();
        sameStep();
        mending();
        blockedMending();
        stepsWrong();
        down();
        spread();
        calm();
        recovery();
        recoveryInOrder();
        recoveryWrong();
        bestOrder();
        bestOrderOfMany();
        Expect.finish();
    }

    // Promise 22
    private static void fail() {
        ServiceBudgets x = Make.chain(3);
        Expect.same("22 fail(1)", x.fail(1), 2);
        Expect.same("22 service(1, 6)", x.service(1, 6), 0);
        Expect.badState("22 fail(1) once more", x, () -> x.fail(1));
        x.steps(1);
        Expect.same("22 service(0, 7)", x.service(0, 7), 1);
        Expect.same("22 fail(0)", x.fail(0), 1);
        Expect.same("22 strain 0", x.service(0, 7), 0);
        Expect.same("22 not under repair", x.service(0, 8), NONE);
        x.repair(0);
        Expect.badState("22 fail(0) under repair", x, () -> x.fail(0));
        Expect.noSuch("22 fail(-1)", x, () -> x.fail(-1));
        Expect.noSuch("22 fail(3)", x, () -> x.fail(3));
        x.undo();
        Expect.same("22 undo()", x.undo(), 2);
        Expect.same("22 up again", x.service(0, 6), 1);
        Expect.same("22 strain again", x.service(0, 7), 1);
    }

    // Promise 23
    private static void repair() {
        ServiceBudgets x = Make.many(2);
        Expect.badState("23 repair(0) of what is up", x, () -> x.repair(0));
        x.fail(0);
        x.set(3, 0, 7);
        Expect.same("23 repair(0)", x.repair(0), 7);
        Expect.same("23 service(0, 8)", x.service(0, 8), 7);
        Expect.same("23 service(0, 6)", x.service(0, 6), 0);
        Expect.badState("23 repair(0) once more", x, () -> x.repair(0));
        Expect.noSuch("23 repair(-1)", x, () -> x.repair(-1));
        Expect.noSuch("23 repair(2)", x, () -> x.repair(2));
        x.set(3, 0, 2);
        Expect.same("23 the rest stays", x.service(0, 8), 7);
        x.undo();
        x.undo();
        Expect.same("23 service(0, 8) after undo()", x.service(0, 8), NONE);
    }

    // Promise 24
    private static void strain() {
        ServiceBudgets x = Make.chain(3);
        x.fail(2);
        Expect.same("24 steps(1)", x.steps(1), 2);
        Expect.same("24 service(1, 7)", x.service(1, 7), 1);
        Expect.same("24 service(0, 7)", x.service(0, 7), 0);
        Expect.same("24 steps(1) then", x.steps(1), 1);
        Expect.same("24 strain 0 when it is down", x.service(1, 7), 0);
        Expect.same("24 not under repair then", x.service(1, 8), NONE);
        Expect.same("24 the states before the step count", x.service(0, 7), 0);
        Expect.same("24 steps(2)", x.steps(2), 0);
        Expect.same("24 undo()", x.undo(), 3);
        Expect.same("24 down() after it", x.down(), 6);
        Expect.same("24 steps(50)", x.steps(50), 0);
    }

    private static void groups() {
        ServiceBudgets x = Make.many(4);
        x.addCall(0, 1, 5, 1, 0);
        x.addCall(0, 2, 5, 1, 2);
        x.addCall(0, 3, 5, 1, 1);
        x.fail(1);
        x.fail(3);
        x.steps(1);
        Expect.same("24 a replacement is up", x.service(0, 7), 0);
        x.fail(2);
        x.steps(1);
        Expect.same("24 no replacement is up", x.service(0, 7), 1);
        x.set(2, 0, 9);
        x.steps(7);
        Expect.same("24 strain below the tolerance", x.service(0, 7), 8);
        x.set(3, 2, 1);
        x.repair(2);
        Expect.same("24 the last step in which it is down", x.steps(1), 1);
        Expect.same("24 down()", x.down(), 2 + 8 + 1);
    }

    private static void lowTolerance() {
        ServiceBudgets x = Make.chain(2);
        x.set(2, 0, 9);
        x.fail(1);
        x.steps(4);
        Expect.same("24 strain 4", x.service(0, 7), 4);
        x.set(3, 1, 1);
        x.repair(1);
        Expect.same("24 the other one is up", x.steps(1), 2);
        Expect.same("24 strain 5", x.service(0, 7), 5);
        x.steps(1);
        Expect.same("24 strain decreases", x.service(0, 7), 4);
        x.set(2, 0, 3);
        Expect.same("24 strain 3 is the tolerance", x.steps(1), 1);
        ServiceBudgets y = Make.chain(2);
        y.fail(1);
        y.steps(1);
        y.set(3, 1, 1);
        y.set(2, 0, 9);
        y.repair(1);
        y.steps(1);
        y.steps(2);
        Expect.same("24 strain is 0 again", y.service(0, 7), 0);
        y.steps(1);
        Expect.same("24 and not below", y.service(0, 7), 0);
    }

    /** Service 1 comes up in the very step in which service 0 has had enough. */
    private static void sameStep() {
        ServiceBudgets x = Make.chain(2);
        x.fail(1);
        x.set(3, 1, 2);
        x.repair(1);
        Expect.same("24 one down, one up in one step", x.steps(2), 1);
        Expect.same("24 down()", x.down(), 1);
    }

    private static void mending() {
        ServiceBudgets x = Make.many(1);
        x.fail(0);
        x.steps(5);
        Expect.same("24 nothing is repaired by itself", x.service(0, 6), 0);
        x.repair(0);
        Expect.same("24 rest 2", x.steps(1), 0);
        Expect.same("24 service(0, 8)", x.service(0, 8), 2);
        Expect.same("24 rest 1", x.steps(1), 0);
        Expect.same("24 repaired", x.steps(1), 1);
        Expect.same("24 service(0, 8) then", x.service(0, 8), NONE);
        Expect.same("24 service(0, 7) then", x.service(0, 7), 0);
    }

    private static void blockedMending() {
        ServiceBudgets x = Make.chain(2);
        x.fail(0);
        x.fail(1);
        x.repair(0);
        x.steps(3);
        Expect.same("24 rest 0 and still down", x.service(0, 8), 0);
        x.steps(1);
        Expect.same("24 rest 0 stays", x.service(0, 8), 0);
        Expect.same("24 down() then", x.down(), 3);
        x.repair(1);
        x.steps(3);
        Expect.same("24 only the callee is up", x.down(), 1);
        x.steps(1);
        Expect.same("24 all are up", x.down(), 0);
        Expect.same("24 no rest", x.service(0, 8), NONE);
    }

    private static void stepsWrong() {
        ServiceBudgets x = Make.many(1);
        Expect.badArgument("24 steps(0)", x, () -> x.steps(0));
        Expect.badArgument("24 steps(51)", x, () -> x.steps(51));
        Expect.badArgument("24 steps(-1)", x, () -> x.steps(-1));
        Expect.same("24 steps(1) without services", new ServiceBudgets().steps(1), 0);
    }

    // Promise 25
    private static void down() {
        ServiceBudgets x = Make.many(12);
        Expect.same("25 none", x.down(), 0);
        x.fail(11);
        x.fail(0);
        x.fail(5);
        Expect.same("25 three", x.down(), 1 << 11 | 1 | 1 << 5);
        x.repair(5);
        Expect.same("25 under repair", x.down(), 1 << 11 | 1 | 1 << 5);
        x.steps(3);
        Expect.same("25 two", x.down(), 1 << 11 | 1);
    }

    // Promise 26
    private static void spread() {
        ServiceBudgets x = Make.chain(4);
        long before = x.digest();
        Expect.same("26 spread(3)", x.spread(3), 15);
        Expect.same("26 spread(0)", x.spread(0), 1);
        Expect.same("26 nothing changes", x.digest(), before);
        x.fail(0);
        x.repair(0);
        Expect.same("26 one is repaired meanwhile", x.spread(1), 2 + 1);
        x.removeCall(0);
        Expect.same("26 one is repaired all the same", x.spread(1), 2);
        Expect.badState("26 spread(0) of what is down", x, () -> x.spread(0));
        Expect.noSuch("26 spread(-1)", x, () -> x.spread(-1));
        Expect.noSuch("26 spread(4)", x, () -> x.spread(4));
        ServiceBudgets y = Make.chain(12);
        for (int k = 0; k < 12; k++) {
            y.set(2, k, 9);
        }
        Expect.same("26 as far as 40 steps go", y.spread(11), 0xF80);
        y.set(2, 6, 4);
        Expect.same("26 in the 40th step", y.spread(11), 0xFC0);
        y.set(2, 6, 5);
        Expect.same("26 in the 41st step", y.spread(11), 0xF80);
    }

    // Promise 27
    private static void calm() {
        ServiceBudgets x = Make.chain(4);
        long before = x.digest();
        Expect.same("27 calm(3)", x.calm(3), 2);
        Expect.same("27 calm(0)", x.calm(0), NONE);
        Expect.same("27 nothing changes", x.digest(), before);
        x.set(2, 2, 9);
        Expect.same("27 calm(3) with more tolerance", x.calm(3), 9);
        x.set(2, 2, 1);
        Expect.same("27 calm(3) with less", x.calm(3), 1);
        x.undo();
        x.undo();
        x.fail(3);
        Expect.same("27 others go down meanwhile", x.calm(0), 2);
        Expect.badState("27 calm(3) of what is down", x, () -> x.calm(3));
        Expect.noSuch("27 calm(-1)", x, () -> x.calm(-1));
        Expect.noSuch("27 calm(4)", x, () -> x.calm(4));
        x.steps(1);
        Expect.same("27 strain counts", x.calm(0), 1);
    }

    // Promises 28 and 29
    private static void recovery() {
        ServiceBudgets x = Make.many(6);
        Expect.same("28 none is down", x.recoveryTime(1), 0);
        Expect.same("29 it is up", x.recoveryStart(1, 0), NONE);
        for (int k = 0; k < 5; k++) {
            x.fail(k);
        }
        x.set(4, 1, 5);
        x.set(4, 3, 9);
        int[][] due = {{6, 3, 9, 0, 12, NONE}, {3, 0, 3, 0, 6, NONE}, {0, 0, 3, 0, 3, NONE}, {0, 0, 0, 0, 3, NONE}};
        int[] times = {15, 9, 6, 6};
        for (int crews = 1; crews <= 4; crews++) {
            Expect.same("28 recoveryTime(" + crews + ")", x.recoveryTime(crews), times[crews - 1]);
            for (int k = 0; k < 6; k++) {
                Expect.same("29 recoveryStart(" + crews + ", " + k + ")", x.recoveryStart(crews, k), due[crews - 1][k]);
            }
        }
        x.set(3, 3, 20);
        Expect.same("28 one takes long", x.recoveryTime(2), 20);
        Expect.same("29 the others take turns", x.recoveryStart(2, 4), 9);
        x.repair(3);
        x.steps(10);
        Expect.same("28 also if it is under repair now", x.recoveryTime(2), 20);
    }

    private static void recoveryInOrder() {
        ServiceBudgets x = Make.chain(3);
        x.fail(0);
        x.fail(2);
        x.set(4, 0, 9);
        x.set(3, 0, 4);
        Expect.same("29 behind another by way of one that is up", x.recoveryStart(4, 0), 3);
        Expect.same("28 recoveryTime(4)", x.recoveryTime(4), 7);
        x.removeCall(0);
        Expect.same("29 without the call", x.recoveryStart(4, 0), 0);
        Expect.same("28 without the call", x.recoveryTime(4), 4);
        ServiceBudgets w = Make.many(2);
        w.addCall(1, 0, 5, 1, 0);
        w.fail(0);
        w.fail(1);
        Expect.same("29 behind the first one", w.recoveryStart(4, 1), 3);
        ServiceBudgets y = Make.chain(12);
        for (int k = 0; k < 12; k++) {
            y.fail(k);
            y.set(3, k, 20);
        }
        Expect.same("28 as long as can be", y.recoveryTime(4), 240);
        Expect.same("29 the last one", y.recoveryStart(4, 0), 220);
        ServiceBudgets z = Make.many(4);
        z.addCall(0, 1, 5, 1, 1);
        z.addCall(0, 2, 5, 1, 2);
        for (int k = 0; k < 4; k++) {
            z.fail(k);
        }
        z.set(3, 2, 7);
        z.set(3, 3, 6);
        Expect.same("29 behind a replacement too", z.recoveryStart(2, 0), 7);
        Expect.same("29 by the crew that is free first", z.recoveryStart(2, 3), 3);
        Expect.same("28 recoveryTime(2)", z.recoveryTime(2), 10);
        z.set(4, 3, 2);
        Expect.same("29 the more important one first", z.recoveryStart(2, 3), 0);
        Expect.same("29 the last one it depends on", z.recoveryStart(2, 2), 3);
        Expect.same("29 a crew stays free meanwhile", z.recoveryStart(2, 0), 10);
        Expect.same("28 recoveryTime(2) then", z.recoveryTime(2), 13);
    }

    private static void recoveryWrong() {
        ServiceBudgets x = Make.many(1);
        Expect.badArgument("28 crews 0", () -> x.recoveryTime(0));
        Expect.badArgument("28 crews 5", () -> x.recoveryTime(5));
        Expect.badArgument("29 crews 0 comes ahead of the service", () -> x.recoveryStart(0, 7));
        Expect.badArgument("29 crews 5", () -> x.recoveryStart(5, 0));
        Expect.noSuch("29 service -1", () -> x.recoveryStart(1, -1));
        Expect.noSuch("29 service 1", () -> x.recoveryStart(1, 1));
    }

    private static void bestIs(String name, ServiceBudgets x, int cost, int... due) {
        Expect.same("30 " + name, x.bestCost(), cost);
        for (int place = 0; place < due.length; place++) {
            Expect.same("31 " + name + " at " + place, x.bestOrder(place), due[place]);
        }
        Expect.same("31 " + name + " behind the last one", x.bestOrder(due.length), NONE);
        Expect.same("31 " + name + " ahead of the first one", x.bestOrder(-1), NONE);
    }

    // Promises 30 and 31
    private static void bestOrder() {
        bestIs("no service", new ServiceBudgets(), 0);
        ServiceBudgets x = Make.many(4);
        bestIs("none down", x, 0);
        for (int k = 0; k < 3; k++) {
            x.fail(k);
        }
        bestIs("all alike", x, 3 + 6 + 9, 0, 1, 2);
        x.set(4, 2, 2);
        bestIs("an important one", x, 2 * 3 + 6 + 9, 2, 0, 1);
        x.undo();
        x.addCall(0, 1, 5, 1, 1);
        x.set(4, 0, 9);
        x.set(3, 0, 1);
        x.set(3, 1, 5);
        x.set(4, 2, 3);
        x.set(3, 2, 2);
        bestIs("one behind another", x, 5 + 9 * 6 + 3 * 8, 1, 0, 2);
        x.set(4, 2, 4);
        bestIs("the other way", x, 8 + 7 + 72, 2, 1, 0);
        x.set(4, 0, 4);
        x.set(3, 1, 3);
        x.set(4, 1, 2);
        x.set(4, 2, 3);
        bestIs("two orders of the same cost", x, 2 * 3 + 4 * 4 + 3 * 6, 1, 0, 2);
        ServiceBudgets y = Make.chain(3);
        y.fail(0);
        y.fail(2);
        y.set(4, 0, 9);
        bestIs("behind another by way of one that is up", y, 3 + 9 * 6, 2, 0);
        y.repair(2);
        y.steps(1);
        bestIs("under repair now", y, 3 + 9 * 6, 2, 0);
        y.steps(2);
        bestIs("another one is down instead", y, 3 + 9 * 6, 1, 0);
        y.removeCall(1);
        y.removeCall(0);
        bestIs("other two without calls", y, 9 * 3 + 6, 0, 1);
        y.repair(1);
        y.steps(3);
        bestIs("one is left", y, 9 * 3, 0);
    }

    /** Without calls the best order is by repair time divided by importance. */
    private static void bestOrderOfMany() {
        ServiceBudgets x = Make.many(12);
        int[] time = {3, 20, 7, 1, 9, 14, 2, 11, 5, 18, 6, 4};
        int[] importance = {1, 9, 2, 3, 4, 1, 8, 5, 5, 7, 1, 6};
        for (int k = 0; k < 12; k++) {
            x.fail(k);
            x.set(3, k, time[k]);
            x.set(4, k, importance[k]);
        }
        int done = 0;
        int moment = 0;
        int cost = 0;
        for (int place = 0; place < 12; place++) {
            int best = NONE;
            for (int k = 0; k < 12; k++) {
                if ((done & 1 << k) == 0 && (best == NONE || time[k] * importance[best] < time[best] * importance[k])) {
                    best = k;
                }
            }
            Expect.same("31 the place " + place, x.bestOrder(place), best);
            done |= 1 << best;
            moment += time[best];
            cost += importance[best] * moment;
        }
        Expect.same("30 twelve services", x.bestCost(), cost);
        ServiceBudgets y = Make.chain(12);
        for (int k = 0; k < 12; k++) {
            y.fail(k);
            y.set(3, k, 20);
            y.set(4, k, 9);
        }
        Expect.same("30 as much as can be", y.bestCost(), 9 * 20 * 78);
        Expect.same("31 the last one first", y.bestOrder(0), 11);
        Expect.same("31 the first one last", y.bestOrder(11), 0);
        Expect.same("31 a place too far", y.bestOrder(12), NONE);
    }
}
