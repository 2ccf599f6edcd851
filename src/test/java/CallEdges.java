/** The edges of CALLS and of promises 3, 4, 6, 8 and 10 to 13. */
final class CallEdges {
    private static final int NONE = ServiceBudgets.NONE;
    private static final int LEAST_INT = Integer.MIN_VALUE;
    private static final int MOST_INT = Integer.MAX_VALUE;

    private CallEdges() {
    }

    static void run() {
        atMostTwentyFour();
        ranges();
        callsOfAService();
        replacements();
        dependence();
        addCall();
        addCallWithoutServices();
        addCallOutOfRange();
        addCallImpossible();
        removeCall();
        removeCallRefused();
        setLimit();
        calls();
        call();
        depends();
        order();
        level();
    }

    /** An object with so many calls of service 0, with the limits 1, 2, 3 and so on. */
    private static ServiceBudgets withCalls(int count) {
        ServiceBudgets x = Make.many(2);
        for (int k = 0; k < count; k++) {
            x.addCall(0, 1, 1 + k, 1, 0);
        }
        return x;
    }

    private static void limitsAre(String what, ServiceBudgets x, int... due) {
        Expect.same(what + ", calls()", x.calls(), due.length);
        for (int call = 0; call < due.length; call++) {
            Expect.same(what + ", the limit of call " + call, x.call(call, 2), due[call]);
        }
    }

    private static void atMostTwentyFour() {
        Sentences.about(0, "There are at most 24 calls, numbered from 0 in the order in which they were added; when "
                + "one is removed, the numbers of those behind it decrease by 1.");
        ServiceBudgets x = Make.many(2);
        for (int k = 0; k < 24; k++) {
            Expect.same("addCall()", x.addCall(0, 1, 1 + k, 1, 0), k);
        }
        Twins.badState("a 25th call", () -> withCalls(24), y -> y.addCall(0, 1, 1, 1, 0));
        Expect.same("removeCall(23)", x.removeCall(23), 23);
        Expect.same("the 24th call once more", x.addCall(0, 1, 99, 1, 0), 23);
        Expect.same("its limit", x.call(23, 2), 99);
        Expect.same("removeCall(0)", x.removeCall(0), 23);
        Expect.same("the first limit", x.call(0, 2), 2);
        Expect.same("the last limit", x.call(22, 2), 99);
        ServiceBudgets first = withCalls(4);
        first.removeCall(0);
        limitsAre("without the first one", first, 2, 3, 4);
        ServiceBudgets middle = withCalls(4);
        middle.removeCall(2);
        limitsAre("without the third one", middle, 1, 2, 4);
        ServiceBudgets last = withCalls(4);
        last.removeCall(3);
        limitsAre("without the last one", last, 1, 2, 3);
        ServiceBudgets only = withCalls(1);
        only.removeCall(0);
        limitsAre("without the only one", only);
    }

    private static void ranges() {
        Sentences.about(0, "A call has a caller and a callee, which are different services (as no service depends on "
                + "itself), a limit (1 to 500), a number of tries (1 to 3) and a kind: 0 needed, 1 optional, 2 "
                + "replacement.");
        for (int service = 0; service < 4; service++) {
            int s = service;
            Twins.badState(s + " calls itself", Make::busy, x -> x.addCall(s, s, 5, 1, 0));
        }
        int[][] fine = {{1, 1, 0}, {500, 1, 0}, {5, 1, 0}, {5, 2, 1}, {5, 3, 0}, {5, 3, 1}, {500, 3, 2}, {1, 1, 2}};
        ServiceBudgets x = Make.many(2);
        for (int k = 0; k < fine.length; k++) {
            Expect.same("a call within the ranges", x.addCall(0, 1, fine[k][0], fine[k][1], fine[k][2]), k);
            for (int what = 2; what <= 4; what++) {
                Expect.same("call(" + k + ", " + what + ")", x.call(k, what), fine[k][what - 2]);
            }
        }
        int[][] wrong = {{0, 1, 0}, {501, 1, 0}, {-1, 1, 0}, {5, 0, 0}, {5, 4, 0}, {5, -1, 0}, {5, 1, -1}, {5, 1, 3}};
        for (int[] row : wrong) {
            Twins.badArgument("limit " + row[0] + ", tries " + row[1] + ", kind " + row[2], Make::busy,
                    y -> y.addCall(0, 1, row[0], row[1], row[2]));
        }
    }

    private static void callsOfAService() {
        Sentences.about(0, "The calls of a service are those whose caller it is, in ascending order of their "
                + "numbers.");
        ServiceBudgets x = Make.many(4);
        x.addCall(0, 1, 50, 1, 0);
        x.addCall(1, 2, 50, 1, 0);
        x.addCall(0, 3, 50, 1, 0);
        x.addCall(0, 2, 50, 1, 1);
        Expect.same("the calls of 0", x.service(0, 10), 3);
        Expect.same("the calls of 1", x.service(1, 10), 1);
        Expect.same("a callee's calls", x.service(3, 10), 0);
        x.request(0, 50);
        int[] due = {0, 1, 2, 3, NONE};
        for (int k = 0; k < due.length; k++) {
            Expect.same("try " + k, x.attempt(k, 0), due[k]);
        }
    }

    private static void replacements() {
        Sentences.about(0, "A replacement belongs to the last call ahead of it, among the calls of its caller, that "
                + "is not a replacement; it can only be added if there is one.");
        ServiceBudgets x = Make.many(4);
        Expect.badState("ahead of all calls", x, () -> x.addCall(0, 3, 5, 1, 2));
        x.addCall(1, 3, 5, 1, 0);
        Expect.badState("behind another caller's", x, () -> x.addCall(0, 3, 5, 1, 2));
        x.addCall(0, 1, 5, 1, 1);
        x.addCall(1, 2, 5, 1, 0);
        Expect.same("behind an optional one", x.addCall(0, 3, 5, 1, 2), 3);
        Expect.same("behind another replacement", x.addCall(0, 2, 5, 1, 2), 4);
        x.addCall(0, 2, 5, 1, 0);
        Expect.same("behind a needed one", x.addCall(0, 3, 5, 1, 2), 6);
        Expect.same("of the other caller", x.addCall(1, 3, 5, 1, 2), 7);
        int[] due = {NONE, NONE, NONE, 1, 1, NONE, 5, 2};
        for (int call = 0; call < due.length; call++) {
            Expect.same("to which call " + call + " belongs", x.call(call, 5), due[call]);
        }
        Expect.badState("of a service that is only called", x, () -> x.addCall(3, 2, 5, 1, 2));
        ServiceBudgets y = withCalls(1);
        y.removeCall(0);
        Expect.badState("when the only call is gone", y, () -> y.addCall(0, 1, 5, 1, 2));
        y.undo();
        Expect.same("when it is there again", y.addCall(0, 1, 5, 1, 2), 1);
        Sentences.about(0, "(A call that is not a replacement, with its replacements, is a group of its caller.)");
        ServiceBudgets z = Make.many(4);
        z.addCall(0, 1, 5, 1, 0);
        z.addCall(0, 2, 5, 1, 2);
        z.addCall(0, 3, 5, 1, 0);
        Expect.no("one of a group of two", z.failsBy(0, 2));
        Expect.no("the other one of a group of two", z.failsBy(0, 4));
        Expect.yes("a whole group of two", z.failsBy(0, 6));
        Expect.yes("a group of one", z.failsBy(0, 8));
    }

    private static void dependence() {
        Sentences.about(0, "A service depends directly on the callees of its calls, and depends on a service if it "
                + "does so directly or by way of others.");
        ServiceBudgets x = Make.chain(12);
        Expect.yes("directly", x.depends(0, 1));
        Expect.yes("by way of one", x.depends(0, 2));
        Expect.yes("by way of ten", x.depends(0, 11));
        Expect.no("the other way round", x.depends(11, 0));
        Expect.no("one without calls", x.depends(11, 10));
        x.removeCall(5);
        Expect.no("by way of none", x.depends(0, 11));
        Expect.yes("as far as it goes", x.depends(0, 5));
        Expect.no("no further", x.depends(0, 6));
        Sentences.about(0, "No service ever depends on itself.");
        for (int service = 0; service < 12; service++) {
            Expect.no("service " + service, x.depends(service, service));
        }
        for (int callee = 0; callee < 11; callee++) {
            int c = callee;
            Twins.badState("a circle from 11 to " + c, () -> Make.chain(12), y -> y.addCall(11, c, 5, 1, 1));
        }
        ServiceBudgets y = Make.chain(12);
        Expect.same("a shorter way is no circle", y.addCall(0, 11, 5, 1, 0), 11);
        y.removeCall(11);
        y.removeCall(10);
        Expect.same("no circle without the last call", y.addCall(11, 0, 5, 1, 0), 10);
        Expect.badState("a circle the other way", y, () -> y.addCall(10, 11, 5, 1, 0));
    }

    private static void addCall() {
        Sentences.about(3, "Adds a call.");
        ServiceBudgets x = Make.many(3);
        x.addCall(2, 0, 500, 3, 1);
        x.addCall(2, 1, 1, 1, 2);
        int[][] due = {{2, 0, 500, 3, 1, NONE}, {2, 1, 1, 1, 2, 0}};
        for (int call = 0; call < 2; call++) {
            for (int what = 0; what <= 5; what++) {
                Expect.same("call(" + call + ", " + what + ")", x.call(call, what), due[call][what]);
            }
        }
        Sentences.about(3, "Undoable.");
        Twins.isUndoable("the first call", () -> Make.many(2), y -> y.addCall(0, 1, 5, 1, 0));
        Twins.isUndoable("the 24th call", () -> withCalls(23), y -> y.addCall(0, 1, 5, 1, 0));
        Twins.isUndoable("a call that is there already", () -> withCalls(1), y -> y.addCall(0, 1, 1, 1, 0));
        Twins.isUndoable("a replacement", Make::busy, y -> y.addCall(0, 3, 5, 1, 2));
        Sentences.about(3, "Returns the number of the call.");
        for (int count = 0; count < 24; count++) {
            Expect.same("behind " + count, withCalls(count).addCall(0, 1, 5, 1, 0), count);
        }
    }

    private static void addCallWithoutServices() {
        Sentences.about(3, "Throws IndexOutOfBoundsException if one of the services does not exist");
        int[] none = {-1, 4, LEAST_INT, MOST_INT};
        for (int s : none) {
            Twins.noSuch("caller " + s, Make::busy, x -> x.addCall(s, 1, 5, 1, 0));
            Twins.noSuch("callee " + s, Make::busy, x -> x.addCall(0, s, 5, 1, 0));
            Twins.noSuch("both " + s, Make::busy, x -> x.addCall(s, s, 5, 1, 0));
            Twins.noSuch("caller " + s + " ahead of the limit", Make::busy, x -> x.addCall(s, 1, 0, 1, 0));
            Twins.noSuch("callee " + s + " ahead of the tries", Make::busy, x -> x.addCall(0, s, 5, 4, 0));
            Twins.noSuch("callee " + s + " ahead of the kind", Make::busy, x -> x.addCall(0, s, 5, 1, 3));
            Twins.noSuch("callee " + s + " ahead of 24 calls", () -> withCalls(24), x -> x.addCall(0, s, 5, 1, 0));
        }
        Twins.noSuch("callee 12", Make::full, x -> x.addCall(0, 12, 5, 1, 0));
        Expect.same("callee 3", Make.busy().addCall(0, 3, 5, 1, 0), 4);
        Expect.same("caller 3, callee 2", Make.busy().addCall(3, 2, 5, 1, 0), 4);
        Expect.same("callee 11", Make.many(12).addCall(0, 11, 5, 1, 0), 0);
        Expect.same("caller 11", Make.many(12).addCall(11, 0, 5, 1, 0), 0);
    }

    private static void addCallOutOfRange() {
        Sentences.about(3, "Throws IllegalArgumentException if limit, tries or kind is out of range");
        int[][] wrong = {{0, 1, 0}, {501, 1, 0}, {LEAST_INT, 1, 0}, {MOST_INT, 1, 0}, {5, 0, 0}, {5, 4, 0},
            {5, LEAST_INT, 0}, {5, MOST_INT, 0}, {5, 1, -1}, {5, 1, 3}, {5, 1, LEAST_INT}, {5, 1, MOST_INT}};
        for (int[] row : wrong) {
            String what = "limit " + row[0] + ", tries " + row[1] + ", kind " + row[2];
            Twins.badArgument(what, Make::busy, x -> x.addCall(0, 1, row[0], row[1], row[2]));
            Twins.badArgument(what + " ahead of a call to itself", Make::busy,
                    x -> x.addCall(0, 0, row[0], row[1], row[2]));
            Twins.badArgument(what + " ahead of a circle", Make::busy, x -> x.addCall(1, 0, row[0], row[1], row[2]));
            Twins.badArgument(what + " ahead of 24 calls", Make::full, x -> x.addCall(0, 1, row[0], row[1], row[2]));
        }
        Twins.badArgument("limit 0 ahead of a replacement for none", Make::busy, x -> x.addCall(2, 3, 0, 1, 2));
        Twins.badArgument("tries 4 ahead of a replacement for none", Make::busy, x -> x.addCall(2, 3, 5, 4, 2));
        int[][] fine = {{1, 1, 0}, {500, 1, 0}, {5, 3, 0}, {5, 1, 1}, {5, 1, 2}};
        for (int[] row : fine) {
            Expect.same("limit " + row[0] + ", tries " + row[1] + ", kind " + row[2],
                    Make.busy().addCall(0, 1, row[0], row[1], row[2]), 4);
        }
    }

    private static void addCallImpossible() {
        Sentences.about(3, "if a service would depend on itself (also if caller and callee are the same)");
        Twins.badState("the same", Make::busy, x -> x.addCall(2, 2, 5, 1, 0));
        Twins.badState("a circle of two", Make::busy, x -> x.addCall(1, 0, 5, 1, 0));
        Twins.badState("a circle of two, optional", Make::busy, x -> x.addCall(3, 0, 5, 1, 1));
        Twins.badState("a circle of three", Make::busy, x -> x.addCall(2, 0, 5, 1, 0));
        Twins.badState("a circle of twelve", () -> Make.chain(12), x -> x.addCall(11, 0, 5, 1, 0));
        Expect.same("no circle", Make.busy().addCall(1, 3, 5, 1, 0), 4);
        Expect.same("no circle from 3 to 1", Make.busy().addCall(3, 1, 5, 1, 0), 4);
        Sentences.about(3, "if it is a replacement and the caller has no other call");
        Twins.badState("no call at all", () -> Make.many(2), x -> x.addCall(0, 1, 5, 1, 2));
        Twins.badState("calls of others", Make::busy, x -> x.addCall(2, 3, 5, 1, 2));
        Expect.same("one other call", Make.busy().addCall(1, 3, 5, 1, 2), 4);
        Expect.same("a needed call instead", Make.busy().addCall(2, 3, 5, 1, 0), 4);
        Expect.same("an optional call instead", Make.busy().addCall(2, 3, 5, 1, 1), 4);
        Sentences.about(3, "or if there are 24 calls");
        for (int kind = 0; kind <= 2; kind++) {
            int k = kind;
            Twins.badState("a 25th call of kind " + k, Make::full, x -> x.addCall(0, 1, 5, 1, k));
            Expect.same("a 24th call of kind " + k, withCalls(23).addCall(0, 1, 5, 1, k), 23);
        }
    }

    private static void removeCall() {
        Sentences.about(4, "Removes a call.");
        ServiceBudgets x = Make.many(4);
        x.addCall(0, 1, 1, 1, 0);
        x.addCall(1, 2, 2, 1, 0);
        x.addCall(0, 2, 3, 1, 1);
        x.addCall(0, 3, 4, 1, 2);
        x.removeCall(0);
        limitsAre("without the first one", x, 2, 3, 4);
        int[] belongs = {NONE, NONE, 1};
        for (int call = 0; call < 3; call++) {
            Expect.same("to which call " + call + " belongs", x.call(call, 5), belongs[call]);
        }
        Expect.no("it no longer depends", x.depends(0, 1));
        Sentences.about(4, "Undoable.");
        Twins.isUndoable("the first one", () -> withCalls(24), y -> y.removeCall(0));
        Twins.isUndoable("the last one", () -> withCalls(24), y -> y.removeCall(23));
        Twins.isUndoable("the only one", () -> withCalls(1), y -> y.removeCall(0));
        Twins.isUndoable("a replacement", Make::busy, y -> y.removeCall(2));
        Sentences.about(4, "Returns the number of calls that are left.");
        ServiceBudgets z = withCalls(24);
        for (int left = 23; left >= 0; left--) {
            Expect.same("removeCall()", z.removeCall(left / 2), left);
        }
    }

    private static void removeCallRefused() {
        Sentences.about(4, "Throws IndexOutOfBoundsException if there is no such call");
        int[] none = {-1, 4, LEAST_INT, MOST_INT};
        for (int call : none) {
            Twins.noSuch("call " + call, Make::busy, x -> x.removeCall(call));
        }
        Twins.noSuch("call 24", Make::full, x -> x.removeCall(24));
        Expect.same("call 23", Make.full().removeCall(23), 23);
        Expect.same("call 3", Make.busy().removeCall(3), 3);
        Sentences.about(4, "Throws IllegalStateException if replacements belong to it");
        Twins.badState("one replacement", Make::busy, x -> x.removeCall(0));
        ServiceBudgets y = Make.busy();
        y.addCall(0, 1, 5, 1, 2);
        Expect.badState("a replacement of another group", y, () -> y.removeCall(3));
        y.removeCall(4);
        Expect.same("without it", y.removeCall(3), 3);
        ServiceBudgets z = Make.many(3);
        z.addCall(0, 1, 5, 1, 0);
        z.addCall(0, 2, 5, 1, 2);
        z.addCall(0, 1, 5, 1, 2);
        Expect.badState("two replacements", z, () -> z.removeCall(0));
        Expect.same("the first one of them", z.removeCall(1), 2);
        Expect.badState("one is left", z, () -> z.removeCall(0));
        Expect.same("the second one", z.removeCall(1), 1);
        Expect.same("none is left", z.removeCall(0), 0);
        ServiceBudgets w = Make.many(3);
        w.addCall(0, 1, 5, 1, 0);
        w.addCall(0, 1, 5, 1, 0);
        w.addCall(0, 2, 5, 1, 2);
        Expect.same("a call ahead of a group", w.removeCall(0), 2);
        Expect.badState("the group's first call", w, () -> w.removeCall(0));
    }

    private static void setLimit() {
        Sentences.about(6, "Changes the limit of a call.");
        ServiceBudgets x = Make.busy();
        x.setLimit(3, 500);
        limitsAre("the last one", x, 30, 5, 25, 500);
        x.setLimit(0, 1);
        limitsAre("the first one", x, 1, 5, 25, 500);
        Sentences.about(6, "Undoable.");
        Twins.isUndoable("the least limit", Make::busy, y -> y.setLimit(1, 1));
        Twins.isUndoable("the greatest limit", Make::full, y -> y.setLimit(23, 500));
        Twins.isUndoable("the same limit", () -> withCalls(1), y -> y.setLimit(0, 1));
        Sentences.about(6, "Returns the limit before.");
        Expect.same("to 1", x.setLimit(2, 1), 25);
        Expect.same("to 500", x.setLimit(2, 500), 1);
        Expect.same("to 500 again", x.setLimit(2, 500), 500);
        Sentences.about(6, "Throws IndexOutOfBoundsException if there is no such call");
        int[] none = {-1, 4, LEAST_INT, MOST_INT};
        for (int call : none) {
            Twins.noSuch("call " + call, Make::busy, y -> y.setLimit(call, 5));
            Twins.noSuch("call " + call + " ahead of the limit", Make::busy, y -> y.setLimit(call, 501));
        }
        Twins.noSuch("call 24", Make::full, y -> y.setLimit(24, 5));
        Expect.same("call 23", Make.full().setLimit(23, 5), 24);
        Sentences.about(6, "Throws IllegalArgumentException if limit is out of range");
        int[] outside = {0, 501, -1, LEAST_INT, MOST_INT};
        for (int limit : outside) {
            Twins.badArgument("limit " + limit, Make::busy, y -> y.setLimit(0, limit));
        }
        Expect.same("limit 1", Make.busy().setLimit(0, 1), 30);
        Expect.same("limit 500", Make.busy().setLimit(0, 500), 30);
    }

    private static void calls() {
        Sentences.about(8, "Returns the number of calls.");
        Expect.same("four", Make.busy().calls(), 4);
        Twins.changesNothing("calls()", Make::busy, x -> x.calls());
        Sentences.about(8, "Returns 0 to 24.");
        Expect.same("without services", new ServiceBudgets().calls(), 0);
        for (int count = 0; count <= 24; count++) {
            Expect.same("calls()", withCalls(count).calls(), count);
        }
    }

    private static void call() {
        Sentences.about(10, "- what: 0 its caller, 1 its callee, 2 its limit, 3 its number of tries, 4 its kind, 5 "
                + "the call to which it belongs (NONE if it is not a replacement)");
        int[][] due = {{0, 1, 30, 2, 0, NONE}, {1, 2, 5, 1, 1, NONE}, {0, 3, 25, 1, 2, 0}, {0, 2, 9, 3, 1, NONE}};
        for (int call = 0; call < 4; call++) {
            for (int what = 0; what <= 5; what++) {
                Expect.same("call(" + call + ", " + what + ")", Make.busy().call(call, what), due[call][what]);
            }
        }
        Expect.same("a replacement of call 0 at the end", Make.full().call(23, 5), 22);
        Expect.same("a replacement of call 1", Make.full().call(2, 5), 1);
        Twins.changesNothing("call()", Make::busy, x -> x.call(2, 5));
        Sentences.about(10, "Throws IndexOutOfBoundsException if there is no such call");
        int[] none = {-1, 4, LEAST_INT, MOST_INT};
        for (int call : none) {
            Twins.noSuch("call " + call, Make::busy, x -> x.call(call, 0));
            Twins.noSuch("call " + call + " ahead of what", Make::busy, x -> x.call(call, 6));
        }
        Twins.noSuch("call 24", Make::full, x -> x.call(24, 0));
        Expect.same("call 23", Make.full().call(23, 2), 24);
        Sentences.about(10, "Throws IllegalArgumentException if what is out of range");
        int[] outside = {-1, 6, LEAST_INT, MOST_INT};
        for (int what : outside) {
            Twins.badArgument("what " + what, Make::busy, x -> x.call(0, what));
        }
    }

    private static void depends() {
        Sentences.about(11, "Tells whether a service depends on another one.");
        Expect.no("not on itself", Make.busy().depends(0, 0));
        Twins.changesNothing("depends()", Make::busy, x -> x.depends(0, 2) ? 1 : 0);
        Sentences.about(11, "Returns true if one depends on other.");
        boolean[][] due = {{false, true, true, true}, {false, false, true, false}, {false, false, false, false},
            {false, false, false, false}};
        for (int one = 0; one < 4; one++) {
            for (int other = 0; other < 4; other++) {
                Expect.yes("depends(" + one + ", " + other + ")", Make.busy().depends(one, other) == due[one][other]);
            }
        }
        Sentences.about(11, "Throws IndexOutOfBoundsException if one of the services does not exist");
        int[] none = {-1, 4, 31, 32, LEAST_INT, MOST_INT};
        for (int service : none) {
            Twins.noSuch("one " + service, Make::busy, x -> x.depends(service, 0) ? 1 : 0);
            Twins.noSuch("other " + service, Make::busy, x -> x.depends(0, service) ? 1 : 0);
            Twins.noSuch("both " + service, Make::busy, x -> x.depends(service, service) ? 1 : 0);
        }
        Expect.yes("the last one", Make.full().depends(0, 11));
        Twins.noSuch("one behind the last one", Make::full, x -> x.depends(0, 12) ? 1 : 0);
    }

    private static void orderIs(String what, ServiceBudgets x, int... due) {
        for (int place = 0; place < due.length; place++) {
            Expect.same(what + ", place " + place, x.order(place), due[place]);
        }
        Expect.same(what + ", behind the last place", x.order(due.length), NONE);
    }

    private static void order() {
        Sentences.about(12, "Returns a service by its place in the order in which each service comes behind those it "
                + "depends on, and, among those that could come next, always the lowest one comes first.");
        orderIs("no service", new ServiceBudgets());
        orderIs("one service", Make.many(1), 0);
        orderIs("no calls", Make.many(12), 0, 1, 2, 3, 4, 5, 6, 7, 8, 9, 10, 11);
        orderIs("a chain", Make.chain(12), 11, 10, 9, 8, 7, 6, 5, 4, 3, 2, 1, 0);
        orderIs("some calls", Make.busy(), 2, 1, 3, 0);
        ServiceBudgets x = Make.many(5);
        x.addCall(0, 4, 5, 1, 1);
        orderIs("the lowest one as soon as it can come", x, 1, 2, 3, 4, 0);
        x.addCall(2, 1, 5, 1, 0);
        x.addCall(1, 4, 5, 1, 0);
        orderIs("two wait for the last one", x, 3, 4, 0, 1, 2);
        x.removeCall(0);
        orderIs("without the first call", x, 0, 3, 4, 1, 2);
        x.removeCall(0);
        x.removeCall(0);
        orderIs("without calls", x, 0, 1, 2, 3, 4);
        Twins.changesNothing("order()", Make::busy, y -> y.order(1));
        Sentences.about(12, "- place: from 0");
        Expect.same("the first place", Make.full().order(0), 1);
        Expect.same("the last place", Make.full().order(11), 0);
        Sentences.about(12, "Returns the service; NONE if there is no such place.");
        int[] none = {-1, 12, LEAST_INT, MOST_INT};
        for (int place : none) {
            Expect.same("place " + place, Make.full().order(place), NONE);
            Expect.same("place " + place + " without services", new ServiceBudgets().order(place), NONE);
        }
        Expect.same("place 4 of 4", Make.busy().order(4), NONE);
        Expect.same("place 3 of 4", Make.busy().order(3), 0);
    }

    private static void level() {
        Sentences.about(13, "Returns the length of the longest chain of calls that begins at a service.");
        ServiceBudgets x = Make.many(4);
        x.addCall(0, 3, 5, 1, 0);
        x.addCall(0, 1, 5, 1, 2);
        Expect.same("two chains of one call", x.level(0), 1);
        x.addCall(1, 2, 5, 1, 1);
        Expect.same("the longer one of two", x.level(0), 2);
        x.addCall(2, 3, 5, 1, 0);
        Expect.same("three calls", x.level(0), 3);
        x.fail(1);
        Expect.same("also by way of one that is down", x.level(0), 3);
        x.removeCall(3);
        Expect.same("one call less", x.level(0), 2);
        x.removeCall(2);
        x.removeCall(1);
        Expect.same("one call is left", x.level(0), 1);
        x.removeCall(0);
        Expect.same("no call is left", x.level(0), 0);
        Twins.changesNothing("level()", Make::busy, y -> y.level(0));
        Sentences.about(13, "Returns the number of calls in it.");
        Expect.same("none", Make.many(1).level(0), 0);
        for (int service = 0; service < 12; service++) {
            Expect.same("service " + service + " of a chain", Make.chain(12).level(service), 11 - service);
        }
        Sentences.about(13, "Throws IndexOutOfBoundsException if there is no such service");
        int[] none = {-1, 4, LEAST_INT, MOST_INT};
        for (int service : none) {
            Twins.noSuch("service " + service, Make::busy, y -> y.level(service));
        }
        Twins.noSuch("service 12", Make::full, y -> y.level(12));
        Expect.same("service 11", Make.full().level(11), 0);
    }
}
