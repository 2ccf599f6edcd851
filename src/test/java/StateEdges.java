import java.math.BigInteger;

/** The edges of UNDO and EXCEPTIONS and of promises 40 and 41. */
final class StateEdges {
    private static final int NONE = ServiceBudgets.NONE;

    private StateEdges() {
    }

    static void run() {
        eachSaves();
        othersDoNotSave();
        atMostFour();
        whatTheStateIs();
        severalExceptions();
        refusedCallsChangeNothing();
        noneOnlyWithoutExceptions();
        undo();
        digest();
        digestOverflows();
    }

    /** Two services, one of them down, one call and one saved state. */
    private static ServiceBudgets small() {
        ServiceBudgets x = new ServiceBudgets();
        Make.execute(x, "a5;a9;c0,1,20,1,0;d1;");
        x.clearText();
        return x;
    }

    private static void eachSaves() {
        Sentences.about(0, "Each successful call of a method that is described as undoable saves the state before "
                + "the call, even if nothing changes.");
        Twins.isUndoable("addService()", StateEdges::small, x -> x.addService(3));
        Twins.isUndoable("addCall()", StateEdges::small, x -> x.addCall(0, 1, 20, 1, 0));
        Twins.isUndoable("removeCall()", StateEdges::small, x -> x.removeCall(0));
        Twins.isUndoable("set()", StateEdges::small, x -> x.set(0, 0, 6));
        Twins.isUndoable("set() to the same", StateEdges::small, x -> x.set(0, 0, 5));
        Twins.isUndoable("setLimit()", StateEdges::small, x -> x.setLimit(0, 21));
        Twins.isUndoable("setLimit() to the same", StateEdges::small, x -> x.setLimit(0, 20));
        Twins.isUndoable("tighten()", StateEdges::small, x -> x.tighten());
        Twins.isUndoable("tighten() of none", () -> Make.many(1), x -> x.tighten());
        Twins.isUndoable("fail()", StateEdges::small, x -> x.fail(0));
        Twins.isUndoable("repair()", StateEdges::small, x -> x.repair(1));
        Twins.isUndoable("steps()", StateEdges::small, x -> x.steps(1));
        Twins.isUndoable("steps() that change nothing", () -> Make.many(1), x -> x.steps(50));
        Twins.isUndoable("execute()", StateEdges::small, x -> x.execute());
    }

    private static void othersDoNotSave() {
        ServiceBudgets x = new ServiceBudgets();
        x.append('x');
        x.clearText();
        x.order(0);
        x.unsound();
        x.down();
        x.recoveryTime(1);
        x.bestCost();
        x.bestOrder(0);
        x.digest();
        Expect.badState("none of these", x, () -> x.undo());
        ServiceBudgets y = Make.many(1);
        y.request(0, 9);
        y.result(0);
        y.leastBudget(0);
        y.worst(0);
        y.spread(0);
        y.calm(0);
        y.cuts(0, 1);
        y.availability(0);
        y.weakest(0);
        Expect.same("nor one of these", y.undo(), 0);
    }

    private static void atMostFour() {
        Sentences.about(0, "At most 4 states are kept; when one more is saved, the oldest one is dropped; undo() "
                + "restores the latest one and removes it.");
        for (int count = 1; count <= 9; count++) {
            ServiceBudgets x = Make.many(count);
            int kept = Math.min(count, 4);
            for (int left = kept - 1; left >= 0; left--) {
                Expect.same(count + " services, undo()", x.undo(), left);
                Expect.same(count + " services, services()", x.services(), count - kept + left);
            }
            Expect.badState(count + " services, undo() once more", x, () -> x.undo());
        }
        ServiceBudgets y = Make.many(6);
        y.undo();
        y.undo();
        y.set(0, 0, 2);
        y.set(0, 0, 3);
        y.set(0, 0, 4);
        int[] works = {3, 2, 1, 1};
        int[] services = {4, 4, 4, 3};
        for (int k = 0; k < 4; k++) {
            Expect.same("saved behind undo()", y.undo(), 3 - k);
            Expect.same("its work", y.service(0, 0), works[k]);
            Expect.same("its services", y.services(), services[k]);
        }
        Expect.badState("no fifth one", y, () -> y.undo());
    }

    private static void whatTheStateIs() {
        Sentences.about(0, "The state consists of the services and the calls with all that is said of them.");
        String changes = "p0,0,50;p1,0,77;p2,0,8;p3,0,11;p4,0,7;p5,0,333;"
                + "p0,3,50;p1,3,77;p2,3,8;p3,3,11;p4,3,7;d0;r1;s9;";
        Expect.same("all that is said of services", Make.execute(Make.busy(), changes), 14);
        Twins.isUndoable("all that is said of services", () -> busyWith(changes), x -> x.execute());
        Twins.isUndoable("the strain", Make::busy, x -> x.steps(3));
        Twins.isUndoable("limits", Make::busy, x -> x.tighten());
        Twins.isUndoable("numbers of calls", Make::busy, x -> x.removeCall(2));
        ServiceBudgets x = Make.busy();
        x.clearText();
        x.request(2, 3);
        x.append('s');
        x.undo();
        Expect.same("not the request", x.result(0), 3);
        Expect.same("not the text", x.clearText(), 1);
    }

    private static void severalExceptions() {
        Sentences.about(0, "If several exceptions apply, the one that is listed first is thrown.");
        Twins.badArgument("addService(): work, full", Make::full, x -> x.addService(0));
        Twins.noSuch("addCall(): service, limit", Make::full, x -> x.addCall(12, 0, 0, 0, 3));
        Twins.noSuch("addCall(): service, full", Make::full, x -> x.addCall(0, 12, 5, 1, 0));
        Twins.badArgument("addCall(): limit, circle", Make::full, x -> x.addCall(1, 0, 501, 1, 0));
        Twins.badArgument("addCall(): tries, itself", Make::full, x -> x.addCall(0, 0, 5, 0, 0));
        Twins.badArgument("addCall(): kind, full", Make::full, x -> x.addCall(0, 1, 5, 1, 3));
        Twins.badState("addCall(): circle, replacement, full", Make::full, x -> x.addCall(1, 0, 5, 1, 2));
        Twins.noSuch("set(): service, what", Make::busy, x -> x.set(6, 4, 5));
        Twins.noSuch("set(): service, value", Make::busy, x -> x.set(0, -1, 0));
        Twins.badArgument("set(): what, value", Make::busy, x -> x.set(6, 0, -1));
        Twins.noSuch("setLimit(): call, limit", Make::busy, x -> x.setLimit(4, 0));
        Twins.noSuch("service(): service, what", Make::busy, x -> x.service(4, 11));
        Twins.noSuch("call(): call, what", Make::busy, x -> x.call(4, 6));
        Twins.noSuch("request(): service, budget", Make::busy, x -> x.request(4, 1001) ? 1 : 0);
        Twins.badArgument("result(): what, no request", Make::full, x -> x.result(6));
        Twins.badArgument("recoveryStart(): crews, service", Make::busy, x -> x.recoveryStart(5, 4));
        Twins.noSuch("failsBy(): service, set", Make::busy, x -> x.failsBy(4, 16) ? 1 : 0);
        Twins.noSuch("cuts(): service, size", Make::busy, x -> x.cuts(4, 13));
        Twins.noSuch("cut(): service, size", Make::busy, x -> x.cut(4, 0, -1));
        Twins.badArgument("append(): value, full", StateEdges::longText, x -> x.append(128));
    }

    private static ServiceBudgets busyWith(String text) {
        ServiceBudgets x = Make.busy();
        Make.write(x, text);
        return x;
    }

    private static ServiceBudgets longText() {
        return busyWith("s1;".repeat(40));
    }

    private static void refusedCallsChangeNothing() {
        Sentences.about(0, "A call that throws an exception changes nothing.");
        Twins.badArgument("addService()", Make::busy, x -> x.addService(0));
        Twins.badState("addService(), full", Make::full, x -> x.addService(1));
        Twins.badState("addCall()", Make::busy, x -> x.addCall(2, 0, 5, 1, 0));
        Twins.badState("removeCall()", Make::busy, x -> x.removeCall(0));
        Twins.badArgument("set()", Make::busy, x -> x.set(0, 0, 101));
        Twins.badArgument("setLimit()", Make::busy, x -> x.setLimit(0, 501));
        Twins.badArgument("request()", Make::busy, x -> x.request(0, 1001) ? 1 : 0);
        Twins.badState("fail()", Make::busy, x -> x.fail(1));
        Twins.badState("repair()", Make::busy, x -> x.repair(3));
        Twins.badArgument("steps()", Make::busy, x -> x.steps(51));
        Twins.badState("spread()", Make::busy, x -> x.spread(1));
        Twins.badState("calm()", Make::busy, x -> x.calm(1));
        Twins.badState("append()", StateEdges::longText, x -> x.append('s'));
        Twins.badState("undo()", StateEdges::allUndone, x -> x.undo());
    }

    private static ServiceBudgets allUndone() {
        ServiceBudgets x = Make.busy();
        Twins.savedBy(x);
        return x;
    }

    private static void noneOnlyWithoutExceptions() {
        Sentences.about(0, "NONE is returned only if no exception applies.");
        Expect.same("failure() of none", Make.busy().failure(9, 3), NONE);
        Twins.badArgument("failure() of none, what", Make::busy, x -> x.failure(9, 4));
        Expect.same("attempt() of none", Make.busy().attempt(9, 3), NONE);
        Twins.badArgument("attempt() of none, what", Make::busy, x -> x.attempt(9, 4));
        Expect.same("recoveryStart() of one that is up", Make.busy().recoveryStart(4, 0), NONE);
        Twins.badArgument("recoveryStart() of one that is up, crews", Make::busy, x -> x.recoveryStart(5, 0));
        Expect.same("cut() of none", Make.busy().cut(0, 12, 0), NONE);
        Twins.badArgument("cut() of none, size", Make::busy, x -> x.cut(0, 13, 0));
        Expect.same("leastBudget() of one that is down", Make.busy().leastBudget(1), NONE);
        Twins.noSuch("leastBudget() of none", Make::busy, x -> x.leastBudget(4));
        Expect.same("calm() of one that none needs", Make.many(2).calm(0), NONE);
        Twins.badState("calm() of one that is down", Make::busy, x -> x.calm(1));
        Sentences.about(0, "- NONE = -1: There is no such thing.");
        Expect.same("NONE", ServiceBudgets.NONE, -1);
    }

    private static void undo() {
        Sentences.about(40, "Restores the state that was saved last and removes it from the saved ones.");
        ServiceBudgets x = Make.services(1, 2);
        x.set(0, 1, 30);
        x.set(0, 1, 40);
        x.undo();
        Expect.same("the last one", x.service(1, 0), 30);
        x.undo();
        Expect.same("the one before", x.service(1, 0), 2);
        x.undo();
        Expect.same("one service less", x.services(), 1);
        x.undo();
        Expect.same("no service", x.services(), 0);
        Sentences.about(40, "Returns the number of states that are still saved.");
        ServiceBudgets y = Make.busy();
        for (int left = 3; left >= 0; left--) {
            Expect.same("undo()", y.undo(), left);
        }
        Expect.same("it is not undoable itself", Twins.savedBy(y), 0);
        Sentences.about(40, "Throws IllegalStateException if no state is saved");
        Twins.badState("a new object", ServiceBudgets::new, z -> z.undo());
        Twins.badState("all undone", StateEdges::allUndone, z -> z.undo());
        ServiceBudgets one = Make.many(1);
        Expect.same("one is saved", one.undo(), 0);
        Expect.badState("none is saved", one, () -> one.undo());
        one.steps(1);
        Expect.same("one is saved again", one.undo(), 0);
    }

    /** The document's hash with numbers of any size, of which the last 64 bits are taken at the end. */
    private static long literalDigest(ServiceBudgets x, int length, int saved) {
        BigInteger h = next(BigInteger.valueOf(1851), x.services());
        for (int service = 0; service < x.services(); service++) {
            for (int what = 0; what <= 10; what++) {
                h = next(h, x.service(service, what));
            }
            h = next(h, x.worst(service));
        }
        h = next(h, x.calls());
        for (int call = 0; call < x.calls(); call++) {
            for (int what = 0; what <= 5; what++) {
                h = next(h, x.call(call, what));
            }
        }
        int[] rest = {x.unsound(), x.down(), x.recoveryTime(2), x.bestCost(), length, saved};
        for (int value : rest) {
            h = next(h, value);
        }
        return h.longValue();
    }

    private static BigInteger next(BigInteger h, int value) {
        return h.multiply(BigInteger.valueOf(31)).add(BigInteger.valueOf(value));
    }

    private static void digest() {
        Sentences.about(41, "Returns a hash of the state.");
        long before = Make.busy().digest();
        Expect.same("the same for the same calls", Make.busy().digest(), before);
        Twins.changesNothing("digest()", Make::busy, x -> x.digest());
        Sentences.about(41, "Start with h = 1851 and, for each of the following values v, set h = 31 * h + v:");
        Expect.same("a new object", new ServiceBudgets().digest(), 1851L * 31 * 31 * 31 * 31 * 31 * 31 * 31 * 31);
        Expect.same("services and calls", Make.busy().digest(), literalDigest(Make.busy(), 10, 4));
        for (int saved = 0; saved <= 4; saved++) {
            ServiceBudgets x = Make.many(saved);
            Expect.same(saved + " services", x.digest(), literalDigest(Make.many(saved), 0, saved));
            for (int left = saved - 1; left >= 0; left--) {
                x.undo();
                Expect.same(left + " saved states", x.digest(), literalDigest(Make.many(left), 0, left));
            }
        }
        ServiceBudgets unsound = Make.chain(5);
        ServiceBudgets twin = Make.chain(5);
        for (int call = 0; call < 4; call++) {
            unsound.setLimit(call, 1);
            twin.setLimit(call, 1);
        }
        Expect.same("unsound calls", twin.unsound(), 3);
        Expect.same("with unsound calls", unsound.digest(), literalDigest(twin, 0, 4));
        for (int length = 0; length <= 120; length += 40) {
            ServiceBudgets x = Make.busy();
            Make.write(x, "x".repeat(length));
            Expect.same(length + " bytes", x.digest(), literalDigest(Make.busy(), length, 4));
        }
    }

    private static ServiceBudgets fullDown(int count) {
        ServiceBudgets x = Make.full();
        for (int service = 0; service < count; service++) {
            x.fail(service);
        }
        return x;
    }

    private static void digestOverflows() {
        Sentences.about(41, "Returns the hash, with the overflow of long arithmetic ignored.");
        Expect.same("12 services and 24 calls", Make.full().digest(), literalDigest(Make.full(), 0, 4));
        for (int count = 1; count <= 12; count++) {
            Expect.same(count + " down", fullDown(count).digest(), literalDigest(fullDown(count), 0, 4));
        }
    }
}
