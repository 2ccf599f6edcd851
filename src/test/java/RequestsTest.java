/** Promises 14 to 21. */
public final class RequestsTest {
    private static final int NONE = ServiceBudgets.NONE;

    public static void main(String[] args) {
        tooSlow();
        replaced();
        noTimeLeft();
        blame();
        deepBudgets();
        manyNotes();
        blameBeyondTheNotes();
        ranges();
        resultStays();
        leastBudget();
        leastBudgetEdges();
        worst();
        unsound();
        tighten();
        Expect.finish();
    }

    private static void tooSlow() {
        String name = "14 too slow";
        ServiceBudgets x = Make.services(5, 10);
        x.addCall(0, 1, 8, 2, 0);
        Expect.no(name, x.request(0, 40));
        Notes.results(name, x, 21, 0, 3, 2, 1, 3);
        Notes.failure(name, x, 0, 1, 2, 13, 8);
        Notes.failure(name, x, 1, 1, 2, 21, 8);
        Notes.failure(name, x, 2, 0, 4, 21, 40);
        Notes.failure(name, x, 3, NONE, NONE, NONE, NONE);
        Notes.attempt(name, x, 0, 0, 5, 8, 0);
        Notes.attempt(name, x, 1, 0, 13, 8, 0);
        Notes.attempt(name, x, 2, NONE, NONE, NONE, NONE);
        Expect.no("14 own time above the budget", x.request(0, 4));
        Notes.results("14 own time above the budget", x, 4, 0, 1, 0, 0, 1);
        Notes.failure("14 own time above the budget", x, 0, 0, 2, 4, 4);
        Expect.no("14 budget 0", x.request(0, 0));
        Notes.results("14 budget 0", x, 0, 0, 1, 0, 0, 1);
        Notes.failure("14 budget 0", x, 0, 0, 2, 0, 0);
        Expect.yes("14 own time as the budget", x.request(1, 10));
        Notes.results("14 own time as the budget", x, 10, 0, 0, 0, NONE, 1);
        x.fail(1);
        Expect.no("14 down", x.request(1, 10));
        Notes.results("14 down", x, 0, 0, 1, 0, 1, 1);
        Notes.failure("14 down", x, 0, 1, 1, 0, 10);
    }

    private static void replaced() {
        String name = "14 replaced";
        ServiceBudgets x = Make.services(5, 3, 4, 1);
        x.addCall(0, 1, 8, 3, 0);
        x.addCall(3, 1, 8, 3, 0);
        x.addCall(0, 2, 10, 2, 2);
        x.addCall(0, 3, 10, 2, 2);
        x.fail(1);
        Expect.yes(name, x.request(0, 40));
        Notes.results(name, x, 9, 0, 3, 4, NONE, 5);
        for (int k = 0; k < 3; k++) {
            Notes.failure(name, x, k, 1, 1, 5, 8);
            Notes.attempt(name, x, k, 0, 5, 8, 0);
        }
        Notes.attempt(name, x, 3, 2, 5, 10, 1);
        x.undo();
        Expect.yes("14 not replaced", x.request(0, 40));
        Notes.results("14 not replaced", x, 8, 0, 0, 1, NONE, 2);
        Notes.attempt("14 not replaced", x, 0, 0, 5, 8, 1);
    }

    private static void noTimeLeft() {
        String name = "14 no time left";
        ServiceBudgets x = Make.services(5, 1, 1);
        x.addCall(0, 1, 9, 3, 1);
        Expect.yes("14 no time for what is optional", x.request(0, 5));
        Notes.results("14 no time for what is optional", x, 5, 1, 1, 0, NONE, 1);
        x.addCall(0, 2, 9, 3, 0);
        x.addCall(0, 1, 9, 2, 2);
        Expect.no(name, x.request(0, 5));
        Notes.results(name, x, 5, 1, 4, 0, 0, 1);
        for (int k = 0; k < 3; k++) {
            Notes.failure(name, x, k, 0, 3, 5, 5);
        }
        Notes.failure(name, x, 3, 0, 4, 5, 5);
        Expect.no("14 time for the first call alone", x.request(0, 6));
        Notes.results("14 time for the first call alone", x, 6, 0, 3, 1, 0, 2);
        ServiceBudgets y = Make.services(2, 3);
        y.addCall(0, 1, 2, 3, 0);
        Expect.no("14 no time for the third try", y.request(0, 6));
        Notes.results("14 no time for the third try", y, 6, 0, 4, 2, 1, 3);
        Notes.failure("14 no time for the third try", y, 2, 0, 3, 6, 6);
        Notes.failure("14 no time for the third try", y, 3, 0, 4, 6, 6);
    }

    private static void blame() {
        String name = "15 blame";
        ServiceBudgets x = Make.services(1, 2, 1, 9);
        x.addCall(0, 1, 2, 1, 1);
        x.addCall(1, 2, 5, 1, 1);
        x.addCall(0, 3, 3, 1, 0);
        Expect.no(name, x.request(0, 10));
        Notes.results(name, x, 6, 1, 3, 2, 3, 3);
        Notes.failure(name, x, 0, 1, 3, 3, 2);
        Notes.failure(name, x, 1, 3, 2, 6, 3);
        Notes.failure(name, x, 2, 0, 4, 6, 10);
        Notes.attempt(name, x, 0, 0, 1, 2, 1);
        Notes.attempt(name, x, 1, 2, 3, 3, 0);
        ServiceBudgets y = Make.services(5, 3, 4, 1);
        y.addCall(0, 1, 8, 1, 0);
        y.addCall(0, 2, 2, 1, 2);
        y.addCall(0, 3, 8, 1, 2);
        Expect.yes("15 one try that succeeds", y.request(0, 9));
        Expect.same("17 attempt(0, 3)", y.attempt(0, 3), 1);
        y.fail(1);
        y.fail(3);
        Expect.no("15 the first one of kind 1 or 2", y.request(0, 40));
        Notes.results("15 the first one of kind 1 or 2", y, 7, 0, 4, 3, 1, 4);
        Expect.same("17 attempt(0, 3) then", y.attempt(0, 3), 0);
        ServiceBudgets z = Make.services(2, 3, 1);
        z.addCall(0, 1, 5, 1, 0);
        z.addCall(1, 2, 5, 1, 0);
        Expect.no("15 no failure of kind 1 or 2", z.request(0, 5));
        Expect.same("15 its blame", z.result(4), 1);
        Expect.no("15 another one", z.request(0, 2));
        Expect.same("15 its blame then", z.result(4), 0);
        Expect.yes("15 one that succeeds", z.request(0, 6));
        Expect.same("15 no blame", z.result(4), NONE);
    }

    private static void deepBudgets() {
        ServiceBudgets x = Make.chain(12);
        Expect.no("14 a long chain without enough time", x.request(0, 11));
        Expect.same("14 its blame", x.result(4), 10);
        Notes.results("14 a long chain without enough time", x, 11, 0, 12, 10, 10, 11);
        Notes.failure("14 a long chain without enough time", x, 0, 10, 3, 11, 1);
        Expect.yes("14 a long chain", x.request(0, 12));
        Notes.results("14 a long chain", x, 12, 0, 0, 11, NONE, 12);
        for (int k = 0; k < 11; k++) {
            Notes.attempt("14 a long chain", x, k, k, k + 1, 11 - k, 1);
        }
    }

    /** 36 tries of service 1, in each of which service 2 is tried 36 times. */
    private static void manyNotes() {
        String name = "14 many notes";
        ServiceBudgets x = Make.many(3);
        for (int k = 0; k < 12; k++) {
            x.addCall(0, 1, 500, 3, k == 0 ? 0 : 2);
            x.addCall(1, 2, 500, 3, k == 0 ? 0 : 2);
        }
        x.fail(2);
        Expect.no(name, x.request(0, 1000));
        Notes.results(name, x, 37, 0, 60, 200, 2, 1 + 36 + 36 * 36);
        Notes.failure(name, x, 36, 1, 4, 2, 500);
        Notes.failure(name, x, 59, 2, 1, 3, 499);
        Notes.failure(name, x, 60, NONE, NONE, NONE, NONE);
        Notes.attempt(name, x, 0, 0, 1, 500, 0);
        Notes.attempt(name, x, 1, 1, 2, 499, 0);
        Notes.attempt(name, x, 199, 9, 7, 499, 0);
        Notes.attempt(name, x, 200, NONE, NONE, NONE, NONE);
        x.request(2, 1);
        Expect.same("14 the notes of an earlier request", x.attempt(0, 0), NONE);
        Expect.same("14 the failures of an earlier request", x.failure(1, 0), NONE);
    }

    private static void blameBeyondTheNotes() {
        ServiceBudgets x = Make.many(4);
        for (int k = 0; k < 12; k++) {
            x.addCall(1, 2, 5, 1, 1);
        }
        for (int k = 0; k < 11; k++) {
            x.addCall(0, 1, 1, 1, 1);
        }
        x.addCall(0, 3, 5, 1, 0);
        x.fail(3);
        Expect.no("15 blame beyond the notes", x.request(0, 100));
        Notes.results("15 blame beyond the notes", x, 12, 132, 60, 12, 3, 13);
        Notes.failure("15 blame beyond the notes", x, 59, 1, 3, 6, 1);
    }

    private static void ranges() {
        ServiceBudgets x = Make.services(1);
        Expect.noSuch("14 request(-1, 5)", x, () -> x.request(-1, 5) ? 1 : 0);
        Expect.noSuch("14 request(1, -1)", x, () -> x.request(1, -1) ? 1 : 0);
        Expect.badArgument("14 request(0, -1)", x, () -> x.request(0, -1) ? 1 : 0);
        Expect.badArgument("14 request(0, 1001)", x, () -> x.request(0, 1001) ? 1 : 0);
        Expect.badArgument("15 result(-1) without a request", () -> x.result(-1));
        Expect.badArgument("15 result(6) without a request", () -> x.result(6));
        Expect.badState("15 result(5) without a request", () -> x.result(5));
        Expect.badArgument("16 failure(0, 4) without a request", () -> x.failure(0, 4));
        Expect.badArgument("17 attempt(0, -1) without a request", () -> x.attempt(0, -1));
        Expect.yes("14 request(0, 1000)", x.request(0, 1000));
        Expect.badArgument("15 result(-1)", () -> x.result(-1));
        Expect.badArgument("15 result(6)", () -> x.result(6));
        Expect.badArgument("16 failure(0, -1)", () -> x.failure(0, -1));
        Expect.badArgument("16 failure(-1, 4)", () -> x.failure(-1, 4));
        Expect.same("16 failure(-1, 0)", x.failure(-1, 0), NONE);
        Expect.same("16 failure(0, 0)", x.failure(0, 0), NONE);
        Expect.same("16 failure(greatest, 0)", x.failure(Integer.MAX_VALUE, 0), NONE);
        Expect.badArgument("17 attempt(0, 4)", () -> x.attempt(0, 4));
        Expect.badArgument("17 attempt(0, -1)", () -> x.attempt(0, -1));
        Expect.same("17 attempt(-1, 0)", x.attempt(-1, 0), NONE);
        Expect.same("17 attempt(0, 0)", x.attempt(0, 0), NONE);
    }

    private static void resultStays() {
        ServiceBudgets x = Make.chain(2);
        x.fail(1);
        x.request(0, 50);
        x.leastBudget(0);
        x.undo();
        x.undo();
        Expect.same("14 result(0) after undo()", x.result(0), 1);
        Expect.same("14 result(4) after undo()", x.result(4), 1);
        Expect.same("14 attempt(0, 0) after undo()", x.attempt(0, 0), 0);
        Expect.same("14 failure(0, 1) after undo()", x.failure(0, 1), 1);
        Expect.noSuch("14 a refused request", () -> x.request(5, 5) ? 1 : 0);
        Expect.same("14 result(2) after it", x.result(2), 2);
        Expect.same("14 a request saves nothing", x.undo(), 1);
    }

    // Promise 18
    private static void leastBudget() {
        ServiceBudgets x = Make.services(5, 10, 4);
        x.addCall(0, 1, 30, 1, 0);
        Expect.same("18 leastBudget(1)", x.leastBudget(1), 10);
        Expect.same("18 leastBudget(0)", x.leastBudget(0), 15);
        x.addCall(1, 2, 30, 1, 1);
        Expect.same("18 what is optional needs no time", x.leastBudget(0), 15);
        x.removeCall(1);
        x.addCall(1, 2, 30, 1, 0);
        Expect.same("18 through two calls", x.leastBudget(0), 19);
        x.setLimit(0, 14);
        Expect.same("18 the limit is just enough", x.leastBudget(0), 19);
        x.setLimit(0, 13);
        Expect.same("18 the limit is too small", x.leastBudget(0), NONE);
        x.addCall(0, 2, 4, 1, 2);
        Expect.same("18 replaced", x.leastBudget(0), 22);
        x.fail(1);
        Expect.same("18 replaced at once", x.leastBudget(0), 9);
        Expect.same("18 down", x.leastBudget(1), NONE);
        x.fail(2);
        Expect.same("18 all down", x.leastBudget(0), NONE);
        Expect.noSuch("18 leastBudget(-1)", () -> x.leastBudget(-1));
        Expect.noSuch("18 leastBudget(3)", () -> x.leastBudget(3));
    }

    private static void leastBudgetEdges() {
        ServiceBudgets x = Make.services(100, 100, 100, 1);
        x.set(1, 0, 400);
        x.set(1, 1, 300);
        x.set(1, 2, 300);
        x.addCall(0, 1, 300, 1, 0);
        x.addCall(0, 2, 300, 1, 0);
        Expect.same("18 the greatest budget", x.leastBudget(0), 1000);
        Expect.yes("18 a request with it", x.request(0, 1000));
        Expect.no("18 a request with one less", x.request(0, 999));
        x.addCall(0, 3, 5, 1, 0);
        Expect.same("18 beyond the greatest budget", x.leastBudget(0), NONE);
        ServiceBudgets y = Make.services(1, 50);
        y.set(1, 1, 400);
        y.addCall(1, 0, 500, 1, 0);
        ServiceBudgets z = Make.services(100, 100);
        z.set(1, 0, 400);
        z.set(1, 1, 400);
        z.addCall(0, 1, 500, 1, 0);
        ServiceBudgets w = Make.services(1, 100, 100);
        w.set(1, 1, 400);
        w.addCall(0, 1, 500, 1, 0);
        w.addCall(1, 2, 500, 1, 0);
        Expect.same("18 a callee that needs all of the greatest limit", w.leastBudget(0), 501);
        Expect.same("18 a great own time", y.leastBudget(1), 201);
        Expect.same("18 two great own times", z.leastBudget(0), 800);
    }

    // Promise 19
    private static void worst() {
        ServiceBudgets x = Make.services(5, 10, 3);
        x.addCall(0, 1, 30, 2, 0);
        x.addCall(1, 2, 5, 3, 1);
        Expect.same("19 worst(2)", x.worst(2), 3);
        Expect.same("19 worst(1)", x.worst(1), 19);
        Expect.same("19 worst(0)", x.worst(0), 43);
        x.setLimit(0, 12);
        Expect.same("19 worst(0) with a small limit", x.worst(0), 29);
        x.addCall(0, 2, 1, 1, 2);
        Expect.same("19 worst(0) with a replacement", x.worst(0), 30);
        x.fail(1);
        Expect.same("19 worst(0) though it is down", x.worst(0), 30);
        Expect.noSuch("19 worst(-1)", () -> x.worst(-1));
        Expect.noSuch("19 worst(3)", () -> x.worst(3));
        ServiceBudgets y = Make.services(100, 100, 100);
        for (int k = 0; k < 23; k++) {
            y.addCall(0, 1, 500, 3, 0);
        }
        y.addCall(1, 2, 500, 3, 0);
        for (int k = 0; k < 3; k++) {
            y.set(1, k, 400);
        }
        Expect.same("19 the greatest bound of a callee", y.worst(1), 1600);
        Expect.same("19 the greatest bound", y.worst(0), 400 + 69 * 500);
    }

    // Promise 20
    private static void unsound() {
        ServiceBudgets x = Make.services(5, 10, 3);
        Expect.same("20 unsound() without calls", x.unsound(), 0);
        x.addCall(1, 2, 3, 1, 0);
        Expect.same("20 a limit that is just enough", x.unsound(), 0);
        x.addCall(0, 1, 12, 1, 1);
        Expect.same("20 one call", x.unsound(), 1);
        x.addCall(0, 2, 2, 1, 2);
        Expect.same("20 two calls", x.unsound(), 2);
        x.setLimit(1, 13);
        Expect.same("20 one call again", x.unsound(), 1);
    }

    // Promise 21
    private static void tighten() {
        ServiceBudgets x = Make.services(5, 10, 3);
        x.addCall(0, 1, 30, 2, 0);
        x.addCall(1, 2, 5, 3, 0);
        x.addCall(0, 2, 3, 1, 1);
        Expect.same("21 tighten()", x.tighten(), 2);
        Expect.same("21 call(0, 2)", x.call(0, 2), 19);
        Expect.same("21 call(1, 2)", x.call(1, 2), 3);
        Expect.same("21 call(2, 2)", x.call(2, 2), 3);
        Expect.same("21 tighten() once more", x.tighten(), 0);
        x.undo();
        Expect.same("21 even that was saved", x.call(0, 2), 19);
        x.undo();
        Expect.same("21 call(0, 2) after undo()", x.call(0, 2), 30);
        x.setLimit(1, 1);
        Expect.same("21 a limit that is too small grows", x.tighten(), 2);
        Expect.same("21 call(1, 2) then", x.call(1, 2), 3);
        Expect.same("21 call(0, 2) then", x.call(0, 2), 19);
        ServiceBudgets y = Make.services(1, 100, 100);
        y.set(1, 1, 400);
        y.set(1, 2, 400);
        y.addCall(0, 1, 10, 1, 0);
        y.addCall(1, 2, 10, 3, 0);
        Expect.same("21 a great bound", y.tighten(), 2);
        Expect.same("21 at most 500", y.call(0, 2), 500);
        Expect.same("21 at most 500 below", y.call(1, 2), 400);
        Expect.same("21 unsound()", y.unsound(), 1);
        Expect.same("21 tighten() at 500", y.tighten(), 0);
        Expect.same("21 tighten() without calls", new ServiceBudgets().tighten(), 0);
    }
}
