/** The edges of promises 18 to 21. */
final class BoundEdges {
    private static final int NONE = ServiceBudgets.NONE;
    private static final int[] NO_SERVICE = {-1, 4, Integer.MIN_VALUE, Integer.MAX_VALUE};

    private BoundEdges() {
    }

    static void run() {
        leastBudget();
        leastBudgetRange();
        worst();
        greatestBound();
        unsound();
        tighten();
        tightenInOrder();
    }

    /** With its answer a request succeeds, with one less it does not. */
    private static void isLeast(String what, ServiceBudgets x, int service, int due) {
        Expect.same(what, x.leastBudget(service), due);
        Expect.yes(what + ", a request with it", x.request(service, due));
        Expect.no(what + ", a request with one less", x.request(service, due - 1));
    }

    private static void leastBudget() {
        Sentences.about(18, "Finds the smallest budget with which a request at a service succeeds.");
        ServiceBudgets x = Make.services(5, 10, 3, 7);
        isLeast("no calls", x, 3, 7);
        x.addCall(0, 1, 10, 3, 0);
        isLeast("a limit that is just enough", x, 0, 15);
        x.addCall(0, 2, 3, 1, 2);
        isLeast("the replacement is not needed", x, 0, 15);
        x.setLimit(0, 9);
        isLeast("three tries in vain, then the replacement", x, 0, 5 + 27 + 3);
        x.setLimit(1, 2);
        Expect.same("the replacement is in vain too", x.leastBudget(0), NONE);
        x.setLimit(1, 3);
        x.addCall(0, 3, 7, 1, 1);
        isLeast("no time for what is optional", x, 0, 35);
        x.addCall(0, 3, 6, 1, 0);
        Expect.same("a group behind it is in vain", x.leastBudget(0), NONE);
        x.setLimit(3, 7);
        isLeast("time for what is optional, as the next one is needed", x, 0, 35 + 7 + 7);
        x.fail(1);
        isLeast("a callee that is down takes no time", x, 0, 5 + 3 + 7 + 7);
        isLeast("of a chain", Make.chain(12), 0, 12);
        ServiceBudgets back = Make.services(4, 3, 2);
        back.addCall(2, 1, 20, 1, 0);
        back.addCall(1, 0, 20, 1, 0);
        isLeast("of the last one, which calls the first one", back, 2, 9);
        back.set(0, 0, 6);
        isLeast("after a change", back, 2, 11);
        back.removeCall(1);
        isLeast("without a call", back, 2, 5);
        Twins.changesNothing("leastBudget()", Make::busy, y -> y.leastBudget(0));
        Twins.changesNothing("leastBudget() with an answer", Make::full, y -> y.leastBudget(0));
        Sentences.about(18, "Throws IndexOutOfBoundsException if there is no such service");
        for (int service : NO_SERVICE) {
            Twins.noSuch("service " + service, Make::busy, y -> y.leastBudget(service));
        }
        Twins.noSuch("service 12", Make::full, y -> y.leastBudget(12));
        isLeast("service 11", Make.full(), 11, 1);
    }

    /** Service 0 needs services 1 and 2; their own times are 400, 300 and the number that is given. */
    private static ServiceBudgets slow(int ownTime) {
        ServiceBudgets x = Make.services(100, 100, 100);
        x.set(1, 0, 400);
        x.set(1, 1, 300);
        x.set(1, 2, ownTime);
        x.addCall(0, 1, 500, 1, 0);
        x.addCall(0, 2, 500, 1, 0);
        return x;
    }

    private static void leastBudgetRange() {
        Sentences.about(18, "Returns the budget, 0 to 1000; NONE if there is none.");
        isLeast("the least own time", Make.services(1), 0, 1);
        isLeast("999", slow(299), 0, 999);
        isLeast("1000", slow(300), 0, 1000);
        Expect.same("1001", slow(301).leastBudget(0), NONE);
        Expect.same("1100", slow(400).leastBudget(0), NONE);
        ServiceBudgets x = Make.chain(2);
        x.fail(1);
        Expect.same("down", x.leastBudget(1), NONE);
        Expect.same("the only callee is down", x.leastBudget(0), NONE);
        x.repair(1);
        Expect.same("under repair", x.leastBudget(1), NONE);
        ServiceBudgets y = Make.services(1, 100, 100);
        y.set(1, 1, 400);
        y.addCall(0, 1, 500, 3, 0);
        y.addCall(1, 2, 500, 1, 0);
        isLeast("a callee that needs the whole limit", y, 0, 501);
        y.set(1, 2, 101);
        Expect.same("a callee that needs one more", y.leastBudget(0), NONE);
        isLeast("the callee itself", y, 1, 501);
    }

    private static void worst() {
        Sentences.about(19, "Returns a bound for the time that a request at a service takes: its own time plus, for "
                + "each of its calls, the number of tries times the smaller one of the limit and the bound for the "
                + "callee.");
        int[][] smaller = {{1, 1}, {9, 9}, {10, 10}, {11, 10}, {500, 10}};
        for (int[] row : smaller) {
            for (int tries = 1; tries <= 3; tries++) {
                ServiceBudgets x = Make.services(5, 10);
                x.addCall(0, 1, row[0], tries, tries % 2);
                Expect.same("limit " + row[0] + ", tries " + tries, x.worst(0), 5 + tries * row[1]);
                x.addCall(0, 1, 4, 2, 2);
                Expect.same("limit " + row[0] + ", and a replacement", x.worst(0), 5 + tries * row[1] + 8);
                x.addCall(0, 1, 20, 1, 1);
                Expect.same("limit " + row[0] + ", and an optional one", x.worst(0), 5 + tries * row[1] + 18);
            }
        }
        ServiceBudgets x = Make.services(5, 10, 3);
        Expect.same("no calls", x.worst(0), 5);
        x.set(1, 0, 150);
        Expect.same("its own time, not its work", x.worst(0), 8);
        x.addCall(0, 1, 50, 1, 0);
        x.addCall(1, 2, 50, 2, 0);
        Expect.same("the bound for a callee, not its own time", x.worst(0), 8 + 16);
        x.fail(0);
        x.fail(1);
        Expect.same("down or up plays no part", x.worst(0), 8 + 16);
        x.removeCall(1);
        Expect.same("without the second call", x.worst(0), 8 + 10);
        x.removeCall(0);
        Expect.same("without calls", x.worst(0), 8);
        Twins.changesNothing("worst()", Make::busy, y -> y.worst(0));
        Sentences.about(19, "Throws IndexOutOfBoundsException if there is no such service");
        for (int service : NO_SERVICE) {
            Twins.noSuch("service " + service, Make::busy, y -> y.worst(service));
        }
        Twins.noSuch("service 12", Make::full, y -> y.worst(12));
        Expect.same("service 11", Make.full().worst(11), 1);
    }

    private static void greatestBound() {
        Sentences.about(19, "Returns the bound, but at most 100000 (also for the callees).");
        Expect.same("the least bound", Make.many(1).worst(0), 1);
        ServiceBudgets x = Make.services(100, 100, 100);
        for (int service = 0; service < 3; service++) {
            x.set(1, service, 400);
        }
        x.addCall(1, 2, 500, 3, 0);
        for (int k = 0; k < 23; k++) {
            x.addCall(0, 1, 500, 3, k == 0 ? 1 : 2);
        }
        Expect.same("the greatest bound there can be", x.worst(0), 400 + 23 * 3 * 500);
        Expect.same("that of its callee", x.worst(1), 400 + 3 * 400);
        ServiceBudgets y = Make.chain(12);
        for (int k = 0; k < 11; k++) {
            y.removeCall(0);
            y.addCall(k, k + 1, 500, 3, 0);
            y.addCall(k, k + 1, 500, 3, 2);
        }
        Expect.same("a chain whose bounds are far above the limits", y.worst(0), 1 + 6 * 500);
        Expect.same("at its end", y.worst(10), 7);
        Expect.same("next to its end", y.worst(9), 43);
    }

    private static void unsound() {
        Sentences.about(20, "Counts the calls whose limit is smaller than the bound for the callee.");
        int[][] due = {{1, 1}, {15, 1}, {16, 0}, {17, 0}, {500, 0}};
        for (int[] row : due) {
            ServiceBudgets x = Make.services(5, 10, 3);
            x.addCall(1, 2, 3, 2, 1);
            x.addCall(0, 1, row[0], 1, 0);
            Expect.same("limit " + row[0] + ", bound 16", x.unsound(), row[1]);
        }
        Twins.changesNothing("unsound()", Make::busy, x -> x.unsound());
        Sentences.about(20, "Returns how many there are.");
        Expect.same("without services", new ServiceBudgets().unsound(), 0);
        Expect.same("without calls", Make.many(12).unsound(), 0);
        ServiceBudgets y = Make.services(1, 100);
        for (int k = 0; k < 24; k++) {
            y.addCall(0, 1, 99, 1, k % 3);
            Expect.same("all of them", y.unsound(), k + 1);
        }
        y.setLimit(23, 100);
        Expect.same("all but one", y.unsound(), 23);
        y.set(0, 1, 99);
        Expect.same("none", y.unsound(), 0);
    }

    /** Service 0 calls service 1, whose bound is so much above 400. */
    private static ServiceBudgets above(int more) {
        ServiceBudgets x = Make.services(1, 100, 100);
        x.set(1, 1, 400);
        x.set(1, 2, more);
        x.addCall(0, 1, 7, 1, 0);
        x.addCall(1, 2, 500, 1, 0);
        return x;
    }

    private static void tighten() {
        Sentences.about(21, "and sets the limit of each to the bound for this service, but to at most 500.");
        int[][] due = {{99, 499}, {100, 500}, {101, 500}, {400, 500}};
        for (int[] row : due) {
            ServiceBudgets x = above(row[0]);
            Expect.same("bound " + (400 + row[0]), x.tighten(), 2);
            Expect.same("bound " + (400 + row[0]) + ", the limit", x.call(0, 2), row[1]);
            Expect.same("bound " + (400 + row[0]) + ", the other limit", x.call(1, 2), row[0]);
            Expect.same("once more", x.tighten(), 0);
            Expect.same("unsound()", x.unsound(), row[0] > 100 ? 1 : 0);
        }
        Sentences.about(21, "Undoable.");
        Twins.isUndoable("limits that change", () -> above(99), x -> x.tighten());
        Twins.isUndoable("tighten()", Make::busy, x -> x.tighten());
        Twins.isUndoable("without calls", () -> Make.many(2), x -> x.tighten());
        Twins.isUndoable("without services", ServiceBudgets::new, x -> x.tighten());
        Sentences.about(21, "Returns the number of calls whose limit is another one afterwards.");
        Expect.same("no call", Make.many(12).tighten(), 0);
        ServiceBudgets x = Make.services(1, 30);
        for (int k = 0; k < 24; k++) {
            x.addCall(0, 1, 18 + k, 1, k % 3);
        }
        Expect.same("all but the one with limit 30", x.tighten(), 23);
        Expect.same("none then", x.tighten(), 0);
        x.setLimit(23, 29);
        Expect.same("one", x.tighten(), 1);
        x.setLimit(0, 31);
        x.setLimit(1, 1);
        Expect.same("one too small, one too great", x.tighten(), 2);
    }

    private static void tightenInOrder() {
        Sentences.about(21, "Goes through the services in the order of order(), and for each one through the calls "
                + "whose callee it is");
        ServiceBudgets x = Make.services(5, 10, 3);
        x.addCall(0, 1, 500, 1, 0);
        x.addCall(1, 2, 1, 2, 1);
        Expect.same("the bound that grows by a limit ahead of it", x.tighten(), 2);
        Expect.same("the callee's limit", x.call(1, 2), 3);
        Expect.same("the caller's limit", x.call(0, 2), 16);
        Expect.same("unsound()", x.unsound(), 0);
        ServiceBudgets y = Make.services(3, 10, 5);
        y.addCall(2, 1, 500, 1, 0);
        y.addCall(1, 0, 1, 2, 1);
        Expect.same("the other way round", y.tighten(), 2);
        Expect.same("the callee's limit", y.call(1, 2), 3);
        Expect.same("the caller's limit", y.call(0, 2), 16);
        ServiceBudgets z = Make.chain(12);
        Expect.same("a chain", z.tighten(), 11);
        for (int call = 0; call < 11; call++) {
            Expect.same("call " + call + " of a chain", z.call(call, 2), 11 - call);
        }
    }
}
