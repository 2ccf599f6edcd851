/** The edges of SERVICES and of promises 1, 2, 5, 7 and 9. */
final class ServiceEdges {
    private static final int NONE = ServiceBudgets.NONE;
    private static final int LEAST_INT = Integer.MIN_VALUE;
    private static final int MOST_INT = Integer.MAX_VALUE;
    private static final int[] LEAST = {1, 50, 1, 1, 1, 0};
    private static final int[] MOST = {100, 400, 9, 20, 9, 1000};
    private static final int[] INITIAL = {7, 100, 2, 3, 1, 990};

    private ServiceEdges() {
    }

    static void run() {
        manyCalls();
        atMostTwelve();
        ranges();
        upAndDown();
        ownTime();
        newObject();
        addService();
        addServiceRefused();
        set();
        setRefused();
        services();
        service();
        serviceRefused();
    }

    private static void manyCalls() {
        Sentences.about(0, "An object is used for at most 512 calls after it has been made");
        ServiceBudgets x = new ServiceBudgets();
        Expect.same("the first call", x.addService(100), 0);
        for (int k = 1; k <= 508; k++) {
            Expect.same("set()", x.set(0, 0, 1 + k % 100), k == 1 ? 100 : 1 + (k - 1) % 100);
        }
        Expect.same("the 510th call", x.service(0, 0), 9);
        Expect.same("the 511th call", x.undo(), 3);
        Expect.same("the 512th call", x.service(0, 0), 8);
        ServiceBudgets y = Make.many(11);
        for (int k = 0; k < 250; k++) {
            Expect.same("addService() again and again", y.addService(1 + k % 100), 11);
            Expect.same("undo() again and again", y.undo(), 3);
        }
        Expect.same("services() after 511 calls", y.services(), 11);
    }

    private static void atMostTwelve() {
        Sentences.about(0, "There are at most 12 services, numbered from 0 in the order in which they were added.");
        ServiceBudgets x = new ServiceBudgets();
        for (int k = 0; k < 12; k++) {
            Expect.same("addService()", x.addService(20 + k), k);
            Expect.same("services()", x.services(), k + 1);
        }
        for (int k = 0; k < 12; k++) {
            Expect.same("the work of service " + k, x.service(k, 0), 20 + k);
        }
        Twins.badState("a 13th service", () -> Make.many(12), y -> y.addService(1));
        x.undo();
        Expect.same("the 12th service once more", x.addService(50), 11);
        Expect.same("its work", x.service(11, 0), 50);
    }

    private static void ranges() {
        Sentences.about(0, "Each has a work (1 to 100), a pace (50 to 400 percent, initially 100), a tolerance (1 to "
                + "9, initially 2), a repair time (1 to 20, initially 3), an importance (1 to 9, initially 1) and a "
                + "reliability (0 to 1000, initially 990).");
        for (int what = 0; what < 6; what++) {
            int w = what;
            ServiceBudgets x = Make.services(3, 7);
            Expect.same("initially, " + w, x.service(1, w), INITIAL[w]);
            int[] within = {LEAST[w], LEAST[w] + 1, MOST[w] - 1, MOST[w]};
            for (int value : within) {
                x.set(w, 1, value);
                Expect.same("within the range, " + w, x.service(1, w), value);
            }
            int[] outside = {LEAST[w] - 1, MOST[w] + 1, LEAST_INT, MOST_INT};
            for (int value : outside) {
                Twins.badArgument("set(" + w + ", 0, " + value + ")", Make::busy, y -> y.set(w, 0, value));
            }
        }
    }

    private static void upAndDown() {
        Sentences.about(0, "It is up (as initially) or down.");
        ServiceBudgets x = Make.many(2);
        Expect.same("up", x.service(1, 6), 1);
        x.fail(1);
        Expect.same("down", x.service(1, 6), 0);
        Expect.same("the other one", x.service(0, 6), 1);
    }

    private static void ownTime() {
        Sentences.about(0, "Its own time is its work times its pace divided by 100, rounded up.");
        int[][] due = {{1, 50, 1}, {1, 99, 1}, {1, 100, 1}, {1, 101, 2}, {1, 200, 2}, {1, 201, 3}, {2, 50, 1},
            {3, 50, 2}, {4, 50, 2}, {99, 101, 100}, {100, 99, 99}, {100, 50, 50}, {100, 101, 101}, {100, 400, 400},
            {99, 400, 396}, {50, 399, 200}, {33, 303, 100}, {67, 150, 101}};
        for (int[] row : due) {
            ServiceBudgets x = Make.services(row[0]);
            x.set(1, 0, row[1]);
            Expect.same("work " + row[0] + ", pace " + row[1], x.service(0, 9), row[2]);
        }
    }

    private static void newObject() {
        Sentences.about(1, "Creates a planner without services and calls; there was no request, the text is empty, "
                + "no state is saved.");
        Twins.Setup made = ServiceBudgets::new;
        Expect.same("services()", made.make().services(), 0);
        Expect.same("calls()", made.make().calls(), 0);
        Expect.same("clearText()", made.make().clearText(), 0);
        Expect.same("execute()", made.make().execute(), 0);
        Expect.same("failure()", made.make().failure(0, 0), NONE);
        Expect.same("attempt()", made.make().attempt(0, 0), NONE);
        Expect.same("order()", made.make().order(0), NONE);
        Expect.same("bestOrder()", made.make().bestOrder(0), NONE);
        Expect.same("down()", made.make().down(), 0);
        Expect.same("bestCost()", made.make().bestCost(), 0);
        Expect.same("recoveryTime()", made.make().recoveryTime(1), 0);
        Expect.same("unsound()", made.make().unsound(), 0);
        Expect.same("tighten()", made.make().tighten(), 0);
        Expect.same("steps()", made.make().steps(50), 0);
        for (int what = 0; what <= 5; what++) {
            int w = what;
            Twins.badState("result(" + w + ")", made, x -> x.result(w));
        }
        Twins.badState("undo()", made, x -> x.undo());
        nothingIsThere(made);
    }

    /** Without services and calls each number of one is refused, ahead of all else. */
    private static void nothingIsThere(Twins.Setup made) {
        int[] numbers = {0, -1, LEAST_INT, MOST_INT};
        for (int k : numbers) {
            Twins.noSuch("addCall()", made, x -> x.addCall(k, k, 0, 0, 9));
            Twins.noSuch("removeCall()", made, x -> x.removeCall(k));
            Twins.noSuch("set()", made, x -> x.set(9, k, -1));
            Twins.noSuch("setLimit()", made, x -> x.setLimit(k, 0));
            Twins.noSuch("service()", made, x -> x.service(k, 99));
            Twins.noSuch("call()", made, x -> x.call(k, 99));
            Twins.noSuch("depends()", made, x -> x.depends(k, k) ? 1 : 0);
            Twins.noSuch("level()", made, x -> x.level(k));
            Twins.noSuch("request()", made, x -> x.request(k, -1) ? 1 : 0);
            Twins.noSuch("leastBudget()", made, x -> x.leastBudget(k));
            Twins.noSuch("worst()", made, x -> x.worst(k));
            Twins.noSuch("fail()", made, x -> x.fail(k));
            Twins.noSuch("repair()", made, x -> x.repair(k));
            Twins.noSuch("spread()", made, x -> x.spread(k));
            Twins.noSuch("calm()", made, x -> x.calm(k));
            Twins.noSuch("recoveryStart()", made, x -> x.recoveryStart(1, k));
            Twins.noSuch("failsBy()", made, x -> x.failsBy(k, 1) ? 1 : 0);
            Twins.noSuch("cuts()", made, x -> x.cuts(k, 0));
            Twins.noSuch("cut()", made, x -> x.cut(k, 0, 0));
            Twins.noSuch("availability()", made, x -> x.availability(k));
            Twins.noSuch("weakest()", made, x -> x.weakest(k));
        }
    }

    private static void addService() {
        Sentences.about(2, "Adds a service.");
        ServiceBudgets x = Make.services(9, 7);
        int[] due = {7, 100, 2, 3, 1, 990, 1, 0, NONE, 7, 0};
        for (int what = 0; what < due.length; what++) {
            Expect.same("service(1, " + what + ")", x.service(1, what), due[what]);
        }
        addServiceAgain(due);
        Sentences.about(2, "Undoable.");
        Twins.isUndoable("the first service", ServiceBudgets::new, y -> y.addService(1));
        Twins.isUndoable("the 12th service", () -> Make.many(11), y -> y.addService(1));
        Twins.isUndoable("addService()", Make::busy, y -> y.addService(100));
        Sentences.about(2, "Returns the number of the service.");
        ServiceBudgets z = new ServiceBudgets();
        Expect.same("the first one", z.addService(100), 0);
        Expect.same("the second one", z.addService(1), 1);
        z.undo();
        Expect.same("the second one again", z.addService(2), 1);
        z.undo();
        z.undo();
        Expect.same("the first one again", z.addService(3), 0);
    }

    /** Nothing is left of a service that was undone, whatever had become of it. */
    private static void addServiceAgain(int[] due) {
        String[] lives = {"a9;p0,1,2;p1,1,60;p2,1,9;p3,1,8;p4,1,7;p5,1,6;", "a9;c1,0,5,1,0;d0;s1;", "a9;d1;",
            "a9;d1;r1;"};
        for (String life : lives) {
            ServiceBudgets x = Make.many(1);
            Make.execute(x, life);
            x.undo();
            x.addService(7);
            for (int what = 0; what < due.length; what++) {
                Expect.same("after " + life + " service(1, " + what + ")", x.service(1, what), due[what]);
            }
        }
    }

    private static void addServiceRefused() {
        Sentences.about(2, "Throws IllegalArgumentException if work is out of range");
        int[] outside = {0, 101, -1, LEAST_INT, MOST_INT};
        for (int work : outside) {
            Twins.badArgument("addService(" + work + ")", ServiceBudgets::new, x -> x.addService(work));
            Twins.badArgument("addService(" + work + ") later", Make::busy, x -> x.addService(work));
            Twins.badArgument("ahead of 12 services, " + work, Make::full, x -> x.addService(work));
        }
        Expect.same("work 1", new ServiceBudgets().addService(1), 0);
        Expect.same("work 100", new ServiceBudgets().addService(100), 0);
        Sentences.about(2, "Throws IllegalStateException if there are 12 services");
        Twins.badState("a 13th one of work 1", Make::full, x -> x.addService(1));
        Twins.badState("a 13th one of work 100", Make::full, x -> x.addService(100));
        Expect.same("the 12th one", Make.many(11).addService(100), 11);
    }

    private static void set() {
        Sentences.about(5, "Undoable.");
        for (int what = 0; what < 6; what++) {
            int w = what;
            Twins.isUndoable("set(" + w + ") to the least", Make::busy, x -> x.set(w, 1, LEAST[w]));
            Twins.isUndoable("set(" + w + ") to the most", Make::full, x -> x.set(w, 11, MOST[w]));
            Twins.isUndoable("set(" + w + ") to the same", () -> Make.services(7), x -> x.set(w, 0, INITIAL[w]));
        }
        Sentences.about(5, "- what: 0 its work, 1 its pace, 2 its tolerance, 3 its repair time, 4 its importance, 5 "
                + "its reliability");
        ServiceBudgets y = Make.services(7, 7);
        for (int what = 0; what < 6; what++) {
            y.set(what, 1, MOST[what] - what);
        }
        for (int what = 0; what < 6; what++) {
            Expect.same("service(1, " + what + ")", y.service(1, what), MOST[what] - what);
            Expect.same("service(0, " + what + ")", y.service(0, what), INITIAL[what]);
        }
        Sentences.about(5, "Returns the value before.");
        for (int what = 0; what < 6; what++) {
            ServiceBudgets x = Make.services(7);
            Expect.same("initially", x.set(what, 0, LEAST[what]), INITIAL[what]);
            Expect.same("the least", x.set(what, 0, MOST[what]), LEAST[what]);
            Expect.same("the most", x.set(what, 0, MOST[what]), MOST[what]);
            x.undo();
            x.undo();
            Expect.same("the least again", x.set(what, 0, LEAST[what]), LEAST[what]);
        }
    }

    private static void setRefused() {
        Sentences.about(5, "Throws IndexOutOfBoundsException if there is no such service");
        int[] none = {-1, 4, LEAST_INT, MOST_INT};
        for (int service : none) {
            Twins.noSuch("service " + service, Make::busy, x -> x.set(0, service, 5));
            Twins.noSuch("service " + service + " ahead of what", Make::busy, x -> x.set(6, service, 5));
            Twins.noSuch("service " + service + " ahead of the value", Make::busy, x -> x.set(0, service, 0));
        }
        Twins.noSuch("service 12", Make::full, x -> x.set(0, 12, 5));
        Expect.same("service 0", Make.busy().set(0, 0, 6), 5);
        Expect.same("service 3", Make.busy().set(0, 3, 6), 7);
        Expect.same("service 11", Make.full().set(0, 11, 6), 1);
        Sentences.about(5, "Throws IllegalArgumentException if what or value is out of range");
        int[] outside = {-1, 6, 7, 8, LEAST_INT, MOST_INT};
        for (int what : outside) {
            Twins.badArgument("what " + what, Make::busy, x -> x.set(what, 0, 1));
        }
        for (int what = 0; what < 6; what++) {
            int w = what;
            Twins.badArgument("too small, " + w, Make::busy, x -> x.set(w, 0, LEAST[w] - 1));
            Twins.badArgument("too great, " + w, Make::busy, x -> x.set(w, 0, MOST[w] + 1));
            Expect.same("the least, " + w, Make.services(7).set(w, 0, LEAST[w]), INITIAL[w]);
            Expect.same("the most, " + w, Make.services(7).set(w, 0, MOST[w]), INITIAL[w]);
        }
    }

    private static void services() {
        Sentences.about(7, "Returns the number of services.");
        ServiceBudgets x = Make.many(3);
        Expect.same("three", x.services(), 3);
        x.undo();
        Expect.same("two", x.services(), 2);
        Twins.changesNothing("services()", Make::busy, y -> y.services());
        Sentences.about(7, "Returns 0 to 12.");
        Expect.same("none", new ServiceBudgets().services(), 0);
        Expect.same("one", Make.many(1).services(), 1);
        Expect.same("eleven", Make.many(11).services(), 11);
        Expect.same("twelve", Make.many(12).services(), 12);
    }

    private static void service() {
        Sentences.about(9, "- what: 0 to 5 as for set(), 6 1 if it is up, otherwise 0, 7 its strain, 8 its rest "
                + "(NONE if it is not under repair), 9 its own time, 10 the number of its calls");
        int[][] due = {{5, 100, 9, 3, 1, 990, 1, 1, NONE, 5, 3}, {10, 100, 2, 3, 1, 990, 0, 0, NONE, 10, 1},
            {3, 100, 2, 3, 1, 990, 1, 0, NONE, 3, 0}, {7, 100, 2, 3, 1, 990, 0, 0, 2, 7, 0}};
        for (int service = 0; service < 4; service++) {
            for (int what = 0; what <= 10; what++) {
                Expect.same("service(" + service + ", " + what + ")", Make.busy().service(service, what),
                        due[service][what]);
            }
        }
        Expect.same("all calls there can be", Make.full().service(0, 10), 24);
        ServiceBudgets x = Make.many(2);
        x.addCall(0, 1, 5, 1, 0);
        x.fail(0);
        x.fail(1);
        x.repair(0);
        x.steps(2);
        Expect.same("rest 1", x.service(0, 8), 1);
        x.steps(1);
        Expect.same("rest 0 is not NONE", x.service(0, 8), 0);
        Twins.changesNothing("service()", Make::busy, y -> y.service(3, 8));
    }

    private static void serviceRefused() {
        Sentences.about(9, "Throws IndexOutOfBoundsException if there is no such service");
        int[] none = {-1, 4, LEAST_INT, MOST_INT};
        for (int service : none) {
            Twins.noSuch("service " + service, Make::busy, x -> x.service(service, 0));
            Twins.noSuch("service " + service + " ahead of what", Make::busy, x -> x.service(service, 11));
        }
        Twins.noSuch("service 12", Make::full, x -> x.service(12, 0));
        Expect.same("service 11", Make.full().service(11, 0), 1);
        Sentences.about(9, "Throws IllegalArgumentException if what is out of range");
        int[] outside = {-1, 11, LEAST_INT, MOST_INT};
        for (int what : outside) {
            Twins.badArgument("what " + what, Make::busy, x -> x.service(0, what));
        }
        Expect.same("what 0", Make.busy().service(0, 0), 5);
        Expect.same("what 10", Make.busy().service(0, 10), 3);
    }
}
