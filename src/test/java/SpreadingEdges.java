/** The edges of SPREADING and of promises 22 to 27. */
final class SpreadingEdges {
    private static final int NONE = ServiceBudgets.NONE;
    private static final int[] NO_SERVICE = {-1, 4, Integer.MIN_VALUE, Integer.MAX_VALUE};

    private SpreadingEdges() {
    }

    static void run() {
        strainAndRest();
        statesBefore();
        strainGrows();
        strainShrinks();
        tolerance();
        lowerTolerance();
        rest();
        restOfOneThatLacks();
        fail();
        repair();
        steps();
        down();
        spread();
        calm();
    }

    private static void isService(String what, ServiceBudgets x, int service, int up, int strain, int rest) {
        Expect.same(what + ", up", x.service(service, 6), up);
        Expect.same(what + ", strain", x.service(service, 7), strain);
        Expect.same(what + ", rest", x.service(service, 8), rest);
    }

    /** Service 0 needs service 1, which is down, and has so much tolerance. */
    private static ServiceBudgets lacking(int tolerance) {
        ServiceBudgets x = Make.chain(2);
        x.set(2, 0, tolerance);
        x.fail(1);
        return x;
    }

    private static void strainAndRest() {
        Sentences.about(0, "Each service has a strain, initially 0, and, if it is down and under repair, a rest.");
        ServiceBudgets x = lacking(9);
        isService("a new one", x, 0, 1, 0, NONE);
        isService("down", x, 1, 0, 0, NONE);
        x.repair(1);
        isService("under repair", x, 1, 0, 0, 3);
        x.steps(1);
        isService("strain", x, 0, 1, 1, NONE);
        isService("a smaller rest", x, 1, 0, 0, 2);
    }

    private static void statesBefore() {
        Sentences.about(0, "In a step, by the states before the step:");
        ServiceBudgets x = Make.chain(3);
        x.set(2, 0, 1);
        x.set(2, 1, 1);
        x.fail(2);
        Expect.same("the first step", x.steps(1), 1);
        Expect.same("only the next one goes down", x.down(), 6);
        isService("the one behind it", x, 0, 1, 0, NONE);
        Expect.same("the second step", x.steps(1), 0);
        ServiceBudgets y = lacking(1);
        y.set(3, 1, 1);
        y.repair(1);
        Expect.same("one comes up as the other one goes down", y.steps(1), 1);
        Expect.same("down()", y.down(), 1);
        ServiceBudgets z = Make.many(3);
        z.addCall(2, 1, 5, 1, 0);
        z.addCall(1, 0, 5, 1, 0);
        z.set(2, 1, 1);
        z.set(2, 2, 1);
        z.fail(0);
        z.steps(1);
        Expect.same("also if the callees are the lower ones", z.down(), 3);
    }

    /** Service 0 needs 1, can do without 4, and needs 5 or 2; 3 is not called. */
    private static ServiceBudgets groups() {
        ServiceBudgets x = Make.many(6);
        x.addCall(0, 1, 5, 1, 0);
        x.addCall(0, 4, 5, 1, 1);
        x.addCall(0, 5, 5, 1, 0);
        x.addCall(0, 2, 5, 1, 2);
        return x;
    }

    private static void strainGrows() {
        Sentences.about(0, "For each service that is up: if it has a group whose first call is needed and in which "
                + "the callees of all calls are down, its strain increases by 1");
        int[][] due = {{0, 0}, {1 << 1, 1}, {1 << 2, 0}, {1 << 5, 0}, {1 << 5 | 1 << 2, 1}, {1 << 4, 0},
            {1 << 1 | 1 << 5, 1}, {1 << 1 | 1 << 2 | 1 << 5, 1}, {1 << 3, 0}, {1 << 4 | 1 << 2, 0}};
        for (int[] row : due) {
            ServiceBudgets x = groups();
            for (int service = 1; service < 6; service++) {
                if ((row[0] >> service & 1) == 1) {
                    x.fail(service);
                }
            }
            x.steps(1);
            Expect.same("with " + row[0] + " down", x.service(0, 7), row[1]);
        }
        ServiceBudgets y = lacking(9);
        for (int strain = 1; strain <= 8; strain++) {
            y.steps(1);
            Expect.same("step by step", y.service(0, 7), strain);
        }
        ServiceBudgets z = Make.chain(2);
        z.fail(0);
        z.fail(1);
        z.steps(5);
        isService("one that is down has no strain", z, 0, 0, 0, NONE);
    }

    private static void strainShrinks() {
        Sentences.about(0, "otherwise it decreases by 1, if it is above 0.");
        ServiceBudgets x = lacking(9);
        x.set(3, 1, 1);
        x.steps(2);
        x.repair(1);
        x.steps(1);
        Expect.same("strain 3 when the callee comes up", x.service(0, 7), 3);
        for (int strain = 2; strain >= 0; strain--) {
            x.steps(1);
            Expect.same("decreased", x.service(0, 7), strain);
        }
        x.steps(1);
        Expect.same("not below 0", x.service(0, 7), 0);
        ServiceBudgets y = Make.many(1);
        y.steps(50);
        isService("a service without calls", y, 0, 1, 0, NONE);
    }

    private static void tolerance() {
        Sentences.about(0, "Each service that is up and whose strain has become its tolerance or more goes down, "
                + "with strain 0, not under repair.");
        for (int tolerance = 1; tolerance <= 9; tolerance++) {
            ServiceBudgets x = lacking(tolerance);
            if (tolerance > 1) {
                Expect.same("one step less than the tolerance", x.steps(tolerance - 1), 1);
            }
            isService("one below the tolerance", x, 0, 1, tolerance - 1, NONE);
            Expect.same("as many steps as the tolerance", x.steps(1), 0);
            isService("at the tolerance", x, 0, 0, 0, NONE);
        }
    }

    private static void lowerTolerance() {
        ServiceBudgets x = lacking(9);
        x.steps(4);
        x.set(2, 0, 4);
        isService("the tolerance alone brings none down", x, 0, 1, 4, NONE);
        Expect.same("more than the tolerance", x.steps(1), 0);
        int[][] due = {{5, 1}, {4, 0}, {3, 0}, {1, 0}};
        for (int[] row : due) {
            ServiceBudgets y = lacking(9);
            y.set(3, 1, 1);
            y.steps(4);
            y.repair(1);
            y.steps(1);
            y.set(2, 0, row[0]);
            y.steps(1);
            isService("strain 4 by a decrease, tolerance " + row[0], y, 0, row[1], row[1] * 4, NONE);
        }
    }

    private static void rest() {
        Sentences.about(0, "For each service that was under repair before the step, the rest decreases by 1, unless "
                + "it is 0");
        int[] times = {1, 2, 3, 20};
        for (int time : times) {
            ServiceBudgets x = Make.many(1);
            x.set(3, 0, time);
            x.fail(0);
            x.steps(25);
            isService("not under repair", x, 0, 0, 0, NONE);
            x.repair(0);
            for (int left = time - 1; left > 0; left--) {
                Expect.same("still down", x.steps(1), 0);
                isService("repair time " + time, x, 0, 0, 0, left);
            }
            Expect.same("up", x.steps(1), 1);
            isService("repair time " + time, x, 0, 1, 0, NONE);
        }
        ServiceBudgets y = Make.many(1);
        y.fail(0);
        y.repair(0);
        y.set(3, 0, 1);
        Expect.same("the repair time is that of the beginning", y.steps(2), 0);
        Expect.same("its end", y.steps(1), 1);
    }

    private static void restOfOneThatLacks() {
        Sentences.about(0, "if it is 0 then and the service has no group whose first call is needed and in which the "
                + "callees of all calls are down (by the states before the step), it is up, with strain 0, and not "
                + "under repair any more.");
        ServiceBudgets x = Make.chain(2);
        x.fail(0);
        x.fail(1);
        x.set(3, 0, 2);
        x.set(3, 1, 1);
        x.repair(0);
        x.steps(1);
        isService("rest 1", x, 0, 0, 0, 1);
        x.steps(1);
        isService("rest 0", x, 0, 0, 0, 0);
        x.steps(30);
        isService("rest 0 stays", x, 0, 0, 0, 0);
        x.repair(1);
        x.steps(1);
        Expect.same("the callee comes up first", x.down(), 1);
        isService("rest 0 in the step in which it does", x, 0, 0, 0, 0);
        x.steps(1);
        isService("in the next step", x, 0, 1, 0, NONE);
        ServiceBudgets y = groups();
        y.fail(0);
        y.fail(2);
        y.fail(4);
        y.set(3, 0, 1);
        y.repair(0);
        y.steps(1);
        isService("what is optional, or one of two, may be down", y, 0, 1, 0, NONE);
        ServiceBudgets z = Make.chain(2);
        z.set(3, 0, 2);
        z.set(2, 0, 1);
        z.fail(0);
        z.repair(0);
        z.steps(1);
        z.fail(1);
        z.steps(1);
        isService("a callee that goes down ahead of the last step", z, 0, 0, 0, 0);
    }

    private static void fail() {
        Sentences.about(22, "A service goes down, not under repair, with strain 0.");
        ServiceBudgets x = lacking(9);
        x.steps(5);
        isService("with strain", x, 0, 1, 5, NONE);
        x.fail(0);
        isService("without it", x, 0, 0, 0, NONE);
        Sentences.about(22, "Undoable.");
        Twins.isUndoable("fail(0)", Make::busy, y -> y.fail(0));
        Twins.isUndoable("the only one", () -> Make.many(1), y -> y.fail(0));
        Twins.isUndoable("the 12th one", Make::full, y -> y.fail(11));
        Sentences.about(22, "Returns the number of services that are up.");
        ServiceBudgets z = Make.many(12);
        for (int service = 0; service < 12; service++) {
            Expect.same("fail(" + service + ")", z.fail(service), 11 - service);
        }
        Sentences.about(22, "Throws IndexOutOfBoundsException if there is no such service");
        for (int service : NO_SERVICE) {
            Twins.noSuch("service " + service, Make::busy, y -> y.fail(service));
        }
        Twins.noSuch("service 12", Make::full, y -> y.fail(12));
        Expect.same("service 11", Make.full().fail(11), 11);
        Sentences.about(22, "Throws IllegalStateException if it is down");
        Twins.badState("down", Make::busy, y -> y.fail(1));
        Twins.badState("under repair", Make::busy, y -> y.fail(3));
        Expect.same("up", Make.busy().fail(2), 1);
        ServiceBudgets w = Make.busy();
        w.steps(2);
        Expect.same("up again", w.fail(3), 2);
    }

    private static void repair() {
        Sentences.about(23, "The repair of a service begins: its rest is its repair time.");
        ServiceBudgets x = Make.many(2);
        x.fail(1);
        x.set(3, 1, 20);
        x.repair(1);
        isService("the greatest", x, 1, 0, 0, 20);
        x.set(3, 1, 1);
        isService("it stays", x, 1, 0, 0, 20);
        Sentences.about(23, "Undoable.");
        Twins.isUndoable("repair(1)", Make::busy, y -> y.repair(1));
        Twins.isUndoable("the 12th one", SpreadingEdges::lastDown, y -> y.repair(11));
        Sentences.about(23, "Returns its rest.");
        for (int time = 1; time <= 20; time++) {
            ServiceBudgets y = lastDown();
            y.set(3, 11, time);
            Expect.same("repair time " + time, y.repair(11), time);
        }
        Sentences.about(23, "Throws IndexOutOfBoundsException if there is no such service");
        for (int service : NO_SERVICE) {
            Twins.noSuch("service " + service, Make::busy, y -> y.repair(service));
        }
        Twins.noSuch("service 12", SpreadingEdges::lastDown, y -> y.repair(12));
        Expect.same("service 11", lastDown().repair(11), 3);
        Sentences.about(23, "Throws IllegalStateException if it is up, or under repair");
        Twins.badState("up", Make::busy, y -> y.repair(0));
        Twins.badState("up without strain", Make::busy, y -> y.repair(2));
        Twins.badState("under repair", Make::busy, y -> y.repair(3));
        ServiceBudgets z = Make.chain(2);
        z.fail(0);
        z.fail(1);
        z.repair(0);
        z.steps(3);
        Expect.badState("under repair with rest 0", z, () -> z.repair(0));
        Expect.same("down, not under repair", z.repair(1), 3);
        z.steps(4);
        Expect.badState("repaired", z, () -> z.repair(1));
        z.fail(1);
        Expect.same("down once more", z.repair(1), 3);
    }

    private static ServiceBudgets lastDown() {
        ServiceBudgets x = Make.many(12);
        x.fail(11);
        return x;
    }

    /** A chain whose last service is down: one service after the other goes down, each after so many steps more. */
    private static ServiceBudgets falling(int... tolerances) {
        ServiceBudgets x = Make.chain(tolerances.length + 1);
        for (int k = 0; k < tolerances.length; k++) {
            x.set(2, tolerances.length - 1 - k, tolerances[k]);
        }
        return x;
    }

    private static void steps() {
        Sentences.about(24, "Makes some steps.");
        ServiceBudgets one = lacking(9);
        one.steps(3);
        ServiceBudgets other = lacking(9);
        other.steps(1);
        other.steps(1);
        other.steps(1);
        Expect.same("three at once are three", one.service(0, 7), other.service(0, 7));
        Sentences.about(24, "Undoable.");
        Twins.isUndoable("steps(1)", Make::busy, x -> x.steps(1));
        Twins.isUndoable("steps(50)", Make::busy, x -> x.steps(50));
        Twins.isUndoable("steps in which nothing changes", () -> Make.many(2), x -> x.steps(50));
        Twins.isUndoable("steps without services", ServiceBudgets::new, x -> x.steps(1));
        Sentences.about(24, "- n: how many, 1 to 50");
        int[][] due = {{1, 6}, {8, 6}, {9, 5}, {44, 2}, {45, 1}, {49, 1}, {50, 0}};
        for (int[] row : due) {
            ServiceBudgets x = falling(9, 9, 9, 9, 9, 5);
            x.fail(6);
            Expect.same("steps(" + row[0] + ")", x.steps(row[0]), row[1]);
        }
        ServiceBudgets late = falling(9, 9, 9, 9, 9, 6);
        late.fail(6);
        Expect.same("what would happen in the 51st step", late.steps(50), 1);
        Sentences.about(24, "Returns the number of services that are up then.");
        Expect.same("none", new ServiceBudgets().steps(1), 0);
        Expect.same("all", Make.many(12).steps(50), 12);
        Expect.same("those that come up too", Make.busy().steps(2), 3);
        Sentences.about(24, "Throws IllegalArgumentException if n is out of range");
        int[] outside = {0, 51, -1, Integer.MIN_VALUE, Integer.MAX_VALUE};
        for (int n : outside) {
            Twins.badArgument("n " + n, Make::busy, x -> x.steps(n));
            Twins.badArgument("n " + n + " without services", ServiceBudgets::new, x -> x.steps(n));
        }
    }

    private static void down() {
        Sentences.about(25, "Returns the services that are down.");
        Expect.same("two", Make.busy().down(), 2 | 8);
        ServiceBudgets x = Make.busy();
        x.steps(2);
        Expect.same("without the one that was repaired", x.down(), 2);
        x.undo();
        Expect.same("with it", x.down(), 2 | 8);
        Twins.changesNothing("down()", Make::busy, y -> y.down());
        Sentences.about(25, "Returns an int in which bit k is 1 if service k is down.");
        Expect.same("no service", new ServiceBudgets().down(), 0);
        ServiceBudgets all = Make.many(12);
        Expect.same("none of 12", all.down(), 0);
        for (int service = 11; service >= 0; service--) {
            all.fail(service);
            Expect.same("from " + service + " on", all.down(), 4096 - (1 << service));
        }
        for (int service = 0; service < 12; service++) {
            ServiceBudgets one = Make.many(12);
            one.fail(service);
            Expect.same("only " + service, one.down(), 1 << service);
        }
    }

    private static void spread() {
        Sentences.about(26, "Returns the services that would be down after 40 steps if a service went down now.");
        Expect.same("in the 39th step", falling(9, 9, 9, 9, 3).spread(5), 63);
        Expect.same("in the 40th step", falling(9, 9, 9, 9, 4).spread(5), 63);
        Expect.same("in the 41st step", falling(9, 9, 9, 9, 5).spread(5), 62);
        ServiceBudgets x = Make.many(3);
        x.addCall(0, 1, 5, 1, 1);
        x.addCall(0, 2, 5, 1, 0);
        Expect.same("one that is optional", x.spread(1), 2);
        Expect.same("one that is needed", x.spread(2), 5);
        x.fail(1);
        Expect.same("with one that is down already", x.spread(2), 7);
        x.repair(1);
        Expect.same("with one that is repaired meanwhile", x.spread(2), 5);
        Twins.changesNothing("spread()", Make::busy, y -> y.spread(0));
        Sentences.about(26, "Returns an int in which bit k is 1 if service k would be down.");
        Expect.same("the only one", Make.many(1).spread(0), 1);
        Expect.same("the 12th one alone", Make.many(12).spread(11), 1 << 11);
        Expect.same("all", Make.chain(12).spread(11), 4095);
        Expect.same("the first of a chain", Make.chain(12).spread(0), 1);
        Sentences.about(26, "Throws IndexOutOfBoundsException if there is no such service");
        for (int service : NO_SERVICE) {
            Twins.noSuch("service " + service, Make::busy, y -> y.spread(service));
        }
        Twins.noSuch("service 12", Make::full, y -> y.spread(12));
        Sentences.about(26, "Throws IllegalStateException if it is down");
        Twins.badState("down", Make::busy, y -> y.spread(1));
        Twins.badState("under repair", Make::busy, y -> y.spread(3));
        Expect.same("up", Make.busy().spread(2), 2 | 4);
    }

    private static void calm() {
        Sentences.about(27, "Returns the number of the first step in which a service other than the given one goes "
                + "down, if this one goes down now.");
        ServiceBudgets x = Make.many(4);
        x.addCall(0, 3, 5, 1, 0);
        x.addCall(1, 3, 5, 1, 0);
        x.set(2, 0, 7);
        x.set(2, 1, 5);
        Expect.same("the first one of two", x.calm(3), 5);
        x.steps(1);
        Expect.same("not the given one itself", x.calm(2), NONE);
        x.fail(3);
        x.steps(2);
        Expect.same("one that goes down anyway", x.calm(2), 3);
        Expect.same("the given one would go down first", x.calm(1), 5);
        x.repair(3);
        Expect.same("one that goes down as its callee comes up", x.calm(2), 3);
        Expect.same("its callee comes up in time", x.calm(1), NONE);
        Twins.changesNothing("calm()", Make::busy, y -> y.calm(2));
        Sentences.about(27, "Returns the number, 1 to 40; NONE if no other one goes down in 40 steps.");
        for (int tolerance = 1; tolerance <= 9; tolerance++) {
            Expect.same("tolerance " + tolerance, falling(tolerance, 9).calm(2), tolerance);
        }
        Expect.same("no other one", Make.many(1).calm(0), NONE);
        Expect.same("no other one calls it", Make.chain(12).calm(0), NONE);
        Sentences.about(27, "Throws IndexOutOfBoundsException if there is no such service");
        for (int service : NO_SERVICE) {
            Twins.noSuch("service " + service, Make::busy, y -> y.calm(service));
        }
        Twins.noSuch("service 12", Make::full, y -> y.calm(12));
        Sentences.about(27, "Throws IllegalStateException if it is down");
        Twins.badState("down", Make::busy, y -> y.calm(1));
        Twins.badState("under repair", Make::busy, y -> y.calm(3));
        Expect.same("up", Make.busy().calm(2), NONE);
    }
}
