/** The edges of REQUESTS and of promises 14 to 17. */
final class RequestEdges {
    private static final int NONE = ServiceBudgets.NONE;
    private static final int LEAST_INT = Integer.MIN_VALUE;
    private static final int MOST_INT = Integer.MAX_VALUE;

    private RequestEdges() {
    }

    static void run() {
        down();
        ownTimeTooGreat();
        groupsInOrder();
        replacementsInOrder();
        tries();
        noTimeLeft();
        smallerOne();
        neededGroup();
        optionalGroup();
        lastGroup();
        numbersOfFailures();
        sixtyFailures();
        twoHundredTries();
        blame();
        blameOfTheFirst();
        request();
        latestRequest();
        requestRefused();
        result();
        resultRefused();
        failure();
        attempt();
    }

    /** Service 0 calls service 1, both with a work of their own. */
    private static ServiceBudgets pair(int work, int calleeWork, int limit, int tries, int kind) {
        ServiceBudgets x = Make.services(work, calleeWork);
        x.addCall(0, 1, limit, tries, kind);
        return x;
    }

    private static void down() {
        Sentences.about(0, "- If s is down, it fails, and takes the time 0; this is a failure of kind 1 of s.");
        int[] budgets = {0, 1, 2, 3, 4, 1000};
        for (int budget : budgets) {
            ServiceBudgets x = pair(5, 3, 8, 3, 0);
            x.fail(1);
            Expect.no("budget " + budget, x.request(1, budget));
            Notes.results("budget " + budget, x, 0, 0, 1, 0, 1, 1);
            Notes.failures("budget " + budget, x, Notes.row(1, 1, 0, budget));
        }
        ServiceBudgets x = pair(5, 3, 8, 3, 0);
        x.fail(1);
        Expect.no("a callee that is down", x.request(0, 20));
        Notes.results("a callee that is down", x, 5, 0, 4, 3, 1, 4);
        Notes.failures("a callee that is down", x, Notes.row(1, 1, 5, 8), Notes.row(1, 1, 5, 8), Notes.row(1, 1, 5, 8),
                Notes.row(0, 4, 5, 20));
        x.repair(1);
        Expect.no("under repair is still down", x.request(1, 20));
        Expect.same("its kind", x.failure(0, 1), 1);
        Expect.same("the caller goes down meanwhile", x.steps(3), 1);
        Expect.yes("up again", x.request(1, 3));
        Expect.no("down with callees that are up", x.request(0, 20));
        Notes.results("down with callees that are up", x, 0, 0, 1, 0, 0, 1);
    }

    private static void ownTimeTooGreat() {
        Sentences.about(0, "- If its own time is greater than b, it fails and takes the time b; this is a failure of "
                + "kind 2 of s, at the moment m + b.");
        int[] small = {0, 1, 4};
        for (int budget : small) {
            ServiceBudgets x = Make.services(5);
            Expect.no("budget " + budget, x.request(0, budget));
            Notes.results("budget " + budget, x, budget, 0, 1, 0, 0, 1);
            Notes.failures("budget " + budget, x, Notes.row(0, 2, budget, budget));
        }
        int[] enough = {5, 6, 1000};
        for (int budget : enough) {
            ServiceBudgets x = Make.services(5);
            Expect.yes("budget " + budget, x.request(0, budget));
            Notes.results("budget " + budget, x, 5, 0, 0, 0, NONE, 1);
        }
        ServiceBudgets x = pair(2, 5, 4, 1, 0);
        Expect.no("a limit of 4", x.request(0, 50));
        Notes.results("a limit of 4", x, 6, 0, 2, 1, 1, 2);
        Notes.failures("a limit of 4", x, Notes.row(1, 2, 6, 4), Notes.row(0, 4, 6, 50));
        x.setLimit(0, 5);
        Expect.yes("a limit of 5", x.request(0, 50));
        Expect.no("4 are left", x.request(0, 6));
        Notes.failures("4 are left", x, Notes.row(1, 2, 6, 4), Notes.row(0, 4, 6, 6));
        Expect.yes("5 are left", x.request(0, 7));
        Expect.same("its time", x.result(0), 7);
        x.set(0, 0, 100);
        x.set(1, 0, 400);
        Expect.no("the greatest own time", x.request(0, 399));
        Notes.failures("the greatest own time", x, Notes.row(0, 2, 399, 399));
        Expect.yes("the greatest own time and what is called", x.request(0, 405));
    }

    private static void groupsInOrder() {
        Sentences.about(0, "- Otherwise its own time passes, and then its groups are gone through in ascending "
                + "order.");
        ServiceBudgets x = Make.services(3, 1, 2, 4);
        Expect.yes("no group", x.request(0, 3));
        Expect.same("its time", x.result(0), 3);
        x.addCall(0, 2, 9, 1, 1);
        x.addCall(0, 1, 9, 1, 0);
        x.addCall(2, 1, 9, 1, 0);
        x.addCall(0, 3, 9, 1, 0);
        x.addCall(0, 3, 9, 1, 2);
        Expect.yes("three groups", x.request(0, 100));
        Notes.results("three groups", x, 11, 0, 0, 4, NONE, 5);
        Notes.attempts("three groups", x, Notes.row(0, 3, 9, 1), Notes.row(2, 5, 7, 1), Notes.row(1, 6, 9, 1),
                Notes.row(3, 7, 9, 1));
    }

    private static void replacementsInOrder() {
        Sentences.about(0, "In a group the first call is made, and if that is in vain, its replacements in ascending "
                + "order, until one succeeds.");
        for (int fallen = 0; fallen <= 4; fallen++) {
            ServiceBudgets x = Make.many(5);
            for (int callee = 1; callee <= 4; callee++) {
                x.addCall(0, callee, 10 + callee, 1, callee == 1 ? 0 : 2);
            }
            for (int callee = 1; callee <= fallen; callee++) {
                x.fail(callee);
            }
            String name = fallen + " of them down,";
            Expect.yes(name, x.request(0, 50) == fallen < 4);
            int made = Math.min(fallen + 1, 4);
            Expect.same(name + " tries", x.result(3), made);
            for (int k = 0; k < made; k++) {
                Notes.attempt(name, x, k, k, 1, 11 + k, k == fallen ? 1 : 0);
            }
        }
    }

    private static void tries() {
        Sentences.about(0, "To make a call means: as many tries as it has are made, until one succeeds.");
        for (int tries = 1; tries <= 3; tries++) {
            ServiceBudgets x = pair(1, 2, 3, tries, 0);
            Expect.yes(tries + " tries, of which the first one succeeds", x.request(0, 50));
            Notes.results(tries + " tries, of which the first one succeeds", x, 3, 0, 0, 1, NONE, 2);
            Notes.attempts("it", x, Notes.row(0, 1, 3, 1));
            x.setLimit(0, 1);
            Expect.no(tries + " tries in vain", x.request(0, 50));
            Notes.results(tries + " tries in vain", x, 1 + tries, 0, tries + 1, tries, 1, tries + 1);
            for (int k = 0; k < tries; k++) {
                Notes.attempt("in vain,", x, k, 0, 1 + k, 1, 0);
            }
            Notes.attempt("no more,", x, tries, NONE, NONE, NONE, NONE);
        }
    }

    private static void noTimeLeft() {
        Sentences.about(0, "Ahead of each try, if no time is left of b, it is not made, the call is in vain, and "
                + "this is a failure of kind 3 of s.");
        ServiceBudgets x = pair(2, 3, 2, 3, 0);
        Expect.no("ahead of the first try", x.request(0, 2));
        Notes.results("ahead of the first try", x, 2, 0, 2, 0, 0, 1);
        Notes.failures("ahead of the first try", x, Notes.row(0, 3, 2, 2), Notes.row(0, 4, 2, 2));
        Expect.no("one is left for the first try", x.request(0, 3));
        Notes.results("one is left for the first try", x, 3, 0, 3, 1, 1, 2);
        Notes.failures("one is left for the first try", x, Notes.row(1, 2, 3, 1), Notes.row(0, 3, 3, 3),
                Notes.row(0, 4, 3, 3));
        Expect.no("ahead of the second try", x.request(0, 4));
        Notes.results("ahead of the second try", x, 4, 0, 3, 1, 1, 2);
        Notes.failure("ahead of the second try", x, 1, 0, 3, 4, 4);
        Expect.no("ahead of the third try", x.request(0, 6));
        Notes.results("ahead of the third try", x, 6, 0, 4, 2, 1, 3);
        Notes.failure("ahead of the third try", x, 2, 0, 3, 6, 6);
        Expect.no("one is left for the third try", x.request(0, 7));
        Notes.results("one is left for the third try", x, 7, 0, 4, 3, 1, 4);
        Notes.failures("one is left for the third try", x, Notes.row(1, 2, 4, 2), Notes.row(1, 2, 6, 2),
                Notes.row(1, 2, 7, 1), Notes.row(0, 4, 7, 7));
        Expect.no("no time is left behind the third try", x.request(0, 8));
        Notes.results("no time is left behind the third try", x, 8, 0, 4, 3, 1, 4);
        x.addCall(0, 1, 3, 3, 2);
        Expect.no("ahead of a replacement", x.request(0, 8));
        Notes.results("ahead of a replacement", x, 8, 0, 5, 3, 1, 4);
        Notes.failure("ahead of a replacement", x, 3, 0, 3, 8, 8);
        Expect.yes("enough for a replacement", x.request(0, 11));
    }

    private static void smallerOne() {
        Sentences.about(0, "In a try the callee serves a request at that moment with the smaller one of the limit of "
                + "the call and the time that is left of b; the time it takes passes.");
        int[][] due = {{5, 3}, {6, 4}, {7, 5}, {8, 5}, {9, 5}, {1000, 5}};
        for (int[] row : due) {
            ServiceBudgets x = pair(2, 3, 5, 2, 0);
            Expect.yes("budget " + row[0], x.request(0, row[0]));
            Notes.results("budget " + row[0], x, 5, 0, 0, 1, NONE, 2);
            Notes.attempts("budget " + row[0], x, Notes.row(0, 2, row[1], 1));
        }
        ServiceBudgets y = pair(1, 100, 500, 1, 0);
        Expect.yes("the greatest limit", y.request(0, 1000));
        Notes.attempts("the greatest limit", y, Notes.row(0, 1, 500, 1));
        Expect.yes("one less is left", y.request(0, 500));
        Notes.attempts("one less is left", y, Notes.row(0, 1, 499, 1));
        y.setLimit(0, 1);
        Expect.no("the least limit", y.request(0, 1000));
        Notes.attempts("the least limit", y, Notes.row(0, 1, 1, 0));
    }

    private static void neededGroup() {
        Sentences.about(0, "- If no call of a group succeeds and its first call is needed, s fails at once, and "
                + "takes the time that has passed; this is a failure of kind 4 of s.");
        ServiceBudgets x = Make.services(2, 3, 1);
        x.addCall(0, 1, 2, 1, 0);
        x.addCall(0, 1, 1, 2, 2);
        x.addCall(0, 2, 5, 1, 0);
        Expect.no("none succeeds", x.request(0, 90));
        Notes.results("none succeeds", x, 6, 0, 4, 3, 1, 4);
        Notes.failures("none succeeds", x, Notes.row(1, 2, 4, 2), Notes.row(1, 2, 5, 1), Notes.row(1, 2, 6, 1),
                Notes.row(0, 4, 6, 90));
        x.setLimit(1, 3);
        Expect.yes("the replacement succeeds", x.request(0, 90));
        Notes.results("the replacement succeeds", x, 8, 0, 1, 3, NONE, 4);
        x.fail(2);
        Expect.no("the second group fails", x.request(0, 90));
        Notes.results("the second group fails", x, 7, 0, 3, 3, 1, 4);
        Notes.failure("the second group fails", x, 2, 0, 4, 7, 90);
    }

    private static void optionalGroup() {
        Sentences.about(0, "If its first call is optional, the request goes on, with one more thing missing.");
        ServiceBudgets x = Make.many(4);
        x.addCall(0, 1, 5, 2, 1);
        x.addCall(0, 2, 5, 1, 2);
        x.addCall(0, 3, 5, 1, 0);
        x.fail(1);
        Expect.yes("replaced", x.request(0, 90));
        Notes.results("replaced", x, 3, 0, 2, 4, NONE, 5);
        x.fail(2);
        Expect.yes("missing", x.request(0, 90));
        Notes.results("missing", x, 2, 1, 3, 4, NONE, 5);
        Notes.attempt("missing", x, 3, 2, 1, 5, 1);
        x.addCall(0, 2, 5, 1, 1);
        Expect.yes("two things missing", x.request(0, 90));
        Expect.same("how many", x.result(1), 2);
        x.fail(3);
        Expect.no("failed with one missing ahead", x.request(0, 90));
        Notes.results("failed with one missing ahead", x, 1, 1, 5, 4, 1, 5);
    }

    private static void lastGroup() {
        Sentences.about(0, "- After its last group the request has succeeded, and takes the time that has passed.");
        ServiceBudgets x = pair(2, 3, 2, 1, 1);
        Expect.yes("no time for the last group", x.request(0, 2));
        Notes.results("no time for the last group", x, 2, 1, 1, 0, NONE, 1);
        Expect.yes("in vain until the budget is used up", x.request(0, 4));
        Notes.results("in vain until the budget is used up", x, 4, 1, 1, 1, NONE, 2);
        Expect.yes("in vain with time left", x.request(0, 5));
        Notes.results("in vain with time left", x, 4, 1, 1, 1, NONE, 2);
        x.setLimit(0, 3);
        Expect.yes("the whole budget", x.request(0, 5));
        Notes.results("the whole budget", x, 5, 0, 0, 1, NONE, 2);
    }

    private static void numbersOfFailures() {
        Sentences.about(0, "The failures of a request are numbered from 0 in the order in which they happen; each "
                + "has a service, a kind, its moment (that at which it happens; the request begins at moment 0) and "
                + "the budget that the service had got.");
        ServiceBudgets x = Make.services(1, 2, 1, 9);
        x.addCall(0, 1, 9, 1, 0);
        x.addCall(1, 2, 9, 2, 0);
        x.addCall(0, 3, 4, 1, 2);
        x.fail(2);
        Expect.no("the innermost one comes first", x.request(0, 10));
        Notes.results("the innermost one comes first", x, 7, 0, 5, 4, 2, 5);
        Notes.failures("the innermost one comes first", x, Notes.row(2, 1, 3, 7), Notes.row(2, 1, 3, 7),
                Notes.row(1, 4, 3, 9), Notes.row(3, 2, 7, 4), Notes.row(0, 4, 7, 10));
        Expect.no("one at moment 0", x.request(2, 10));
        Notes.failures("one at moment 0", x, Notes.row(2, 1, 0, 10));
    }

    /** So many tries of a service that is down, each of which is a failure; nothing else fails. */
    private static ServiceBudgets inVain(int tries) {
        ServiceBudgets x = Make.many(2);
        for (int left = tries; left > 0; left -= 3) {
            x.addCall(0, 1, 5, Math.min(left, 3), 1);
        }
        x.fail(1);
        return x;
    }

    private static void sixtyFailures() {
        Sentences.about(0, "Only the first 60 failures");
        int[] counts = {1, 59, 60, 61, 72};
        for (int count : counts) {
            ServiceBudgets x = inVain(count);
            String name = count + " failures,";
            Expect.yes(name, x.request(0, 9));
            Notes.results(name, x, 1, (count + 2) / 3, Math.min(count, 60), count, NONE, count + 1);
            int last = Math.min(count, 60) - 1;
            Notes.failure(name, x, last, 1, 1, 1, 5);
            Notes.failure(name, x, last + 1, NONE, NONE, NONE, NONE);
            Notes.attempt(name, x, count - 1, (count - 1) / 3, 1, 5, 0);
        }
        ServiceBudgets y = inVain(72);
        y.request(0, 9);
        y.request(1, 9);
        Notes.failures("a failure of the next request", y, Notes.row(1, 1, 0, 9));
    }

    /**
     * So many tries, 199 to 201: 7 of service 1, which tries service 2, that is down, 24 times each; then up to 26 more
     * of service 2.
     */
    private static ServiceBudgets manyTries(int count) {
        ServiceBudgets x = Make.many(3);
        for (int k = 0; k < 7; k++) {
            x.addCall(0, 1, 500, 1, 1);
        }
        for (int k = 0; k < 8; k++) {
            x.addCall(1, 2, 500, 3, 1);
        }
        for (int left = count - 7 * 25; left > 0; left -= 3) {
            x.addCall(0, 2, 500, Math.min(left, 3), 1);
        }
        x.fail(2);
        return x;
    }

    private static void twoHundredTries() {
        Sentences.about(0, "and the first 200 tries, of a request are noted.");
        for (int count = 199; count <= 202; count++) {
            ServiceBudgets x = manyTries(count);
            String name = count + " tries,";
            Expect.yes(name, x.request(0, 900));
            int groups = 7 * 8 + (count - 175 + 2) / 3;
            Notes.results(name, x, 8, groups, 60, Math.min(count, 200), NONE, count + 1);
            Notes.attempt(name, x, 0, 0, 1, 500, 1);
            Notes.attempt(name, x, 198, 22, 8, 500, 0);
            int last = Math.min(count, 200) - 1;
            Notes.attempt(name, x, last, 15 + (last - 175) / 3, 8, 500, 0);
            Notes.attempt(name, x, last + 1, NONE, NONE, NONE, NONE);
        }
        ServiceBudgets y = manyTries(202);
        y.request(0, 900);
        y.request(1, 2);
        Expect.same("the tries of the next request", y.result(3), 24);
        Notes.attempt("the next request", y, 24, NONE, NONE, NONE, NONE);
        ServiceBudgets z = Make.many(3);
        for (int k = 0; k < 8; k++) {
            z.addCall(1, 2, 500, 3, 1);
        }
        for (int k = 0; k < 8; k++) {
            z.addCall(0, 1, 500, 1, 1);
        }
        z.fail(2);
        Expect.yes("a try that begins as the 176th and succeeds", z.request(0, 900));
        Notes.attempt("it", z, 175, 15, 8, 500, 1);
        z.undo();
        Expect.yes("tries that all succeed", z.request(0, 900));
        Expect.same("how many", z.result(3), 72);
    }

    /** Failures of kind 3, so many ahead of a call of service 3, which is down. */
    private static ServiceBudgets lateBlame(int ahead) {
        ServiceBudgets x = Make.many(5);
        for (int k = 0; k < 14; k++) {
            x.addCall(1, 4, 5, 1, 1);
        }
        for (int k = 0; k < ahead % 14; k++) {
            x.addCall(2, 4, 5, 1, 1);
        }
        for (int k = 0; k < ahead / 14; k++) {
            x.addCall(0, 1, 1, 1, 1);
        }
        x.addCall(0, 2, 1, 1, 1);
        x.addCall(0, 3, 5, 1, 0);
        x.fail(3);
        return x;
    }

    private static void blame() {
        Sentences.about(0, "The blame for a failed request lies with the service of its first failure of kind 1 or "
                + "2, or, if there is none, of its first failure (noted or not).");
        int[] ahead = {56, 59, 60};
        for (int count : ahead) {
            ServiceBudgets x = lateBlame(count);
            Expect.no(count + " failures of kind 3 ahead", x.request(0, 100));
            Expect.same(count + " failures of kind 3 ahead, noted", x.result(2), Math.min(count + 2, 60));
            Expect.same(count + " failures of kind 3 ahead, blame", x.result(4), 3);
            Expect.same(count + " failures of kind 3 ahead, the first", x.failure(0, 0), 1);
            Expect.same(count + " failures of kind 3 ahead, the next", x.failure(count, 1), count < 60 ? 1 : NONE);
        }
        ServiceBudgets slow = lateBlame(60);
        slow.undo();
        slow.set(0, 3, 100);
        Expect.no("a late failure of kind 2", slow.request(0, 100));
        Expect.same("its blame", slow.result(4), 3);
        ServiceBudgets y = lateBlame(60);
        y.undo();
        Expect.yes("failures without a failed request", y.request(0, 100));
        Expect.same("no blame", y.result(4), NONE);
    }

    private static void blameOfTheFirst() {
        ServiceBudgets x = Make.services(1, 4, 1, 1);
        x.addCall(0, 1, 3, 1, 0);
        x.addCall(0, 2, 3, 1, 2);
        x.fail(2);
        Expect.no("kind 2 ahead of kind 1", x.request(0, 9));
        Expect.same("its blame", x.result(4), 1);
        x.undo();
        x.undo();
        x.addCall(0, 2, 3, 1, 2);
        x.fail(1);
        x.fail(2);
        Expect.no("kind 1 ahead of kind 1", x.request(0, 9));
        Expect.same("its blame", x.result(4), 1);
        ServiceBudgets y = Make.services(1, 2, 1);
        y.addCall(0, 1, 2, 1, 0);
        y.addCall(1, 2, 5, 1, 0);
        Expect.no("kinds 3 and 4 alone", y.request(0, 9));
        Notes.failures("kinds 3 and 4 alone", y, Notes.row(1, 3, 3, 2), Notes.row(1, 4, 3, 2), Notes.row(0, 4, 3, 9));
        Expect.same("the first one has the blame", y.result(4), 1);
        Expect.no("kind 3 of the first service", y.request(0, 1));
        Expect.same("it has the blame", y.result(4), 0);
        y.addCall(0, 2, 1, 1, 2);
        y.fail(2);
        Expect.no("kind 1 behind kinds 3 and 4", y.request(0, 9));
        Expect.same("its blame", y.result(4), 2);
    }

    private static void request() {
        Sentences.about(14, "Serves a request at a service.");
        ServiceBudgets x = pair(2, 3, 5, 1, 0);
        Expect.yes("at the caller", x.request(0, 5));
        Expect.same("its time", x.result(0), 5);
        Expect.yes("at the callee", x.request(1, 5));
        Expect.same("its time", x.result(0), 3);
        Expect.same("nothing is saved", x.undo(), 2);
        Sentences.about(14, "Returns true if it succeeds.");
        ServiceBudgets y = Make.chain(12);
        Expect.no("11 of 12", y.request(0, 11));
        Expect.yes("12 of 12", y.request(0, 12));
        y.fail(11);
        Expect.no("one is down", y.request(0, 12));
        Expect.yes("one that is not called", Make.many(2).request(0, 1));
    }

    private static void latestRequest() {
        Sentences.about(14, "What happened in the latest request can be asked for with the following methods (it is "
                + "not changed by undo()).");
        ServiceBudgets x = Make.busy();
        long before = Twins.notes(x).hashCode();
        for (int k = 0; k < 4; k++) {
            x.undo();
            Expect.same("the notes after undo()", Twins.notes(x).hashCode(), before);
        }
        ServiceBudgets y = Make.busy();
        y.removeCall(1);
        y.addService(9);
        y.tighten();
        y.steps(9);
        y.leastBudget(0);
        y.execute();
        y.clearText();
        Expect.same("the notes after other calls", Twins.notes(y).hashCode(), before);
        y.request(4, 9);
        Notes.results("the next request", y, 9, 0, 0, 0, NONE, 1);
        Notes.failures("the next request", y);
        Notes.attempts("the next request", y);
        ServiceBudgets z = Make.many(1);
        z.request(0, 1);
        z.undo();
        Expect.same("the request at a service that is gone", z.result(5), 1);
    }

    private static void requestRefused() {
        Sentences.about(14, "- budget: its budget, 0 to 1000");
        Expect.no("budget 0", Make.services(1).request(0, 0));
        Expect.yes("budget 1", Make.services(1).request(0, 1));
        Expect.yes("budget 1000", Make.services(1).request(0, 1000));
        Sentences.about(14, "Throws IndexOutOfBoundsException if there is no such service");
        int[] none = {-1, 4, LEAST_INT, MOST_INT};
        for (int service : none) {
            Twins.noSuch("service " + service, Make::busy, x -> x.request(service, 5) ? 1 : 0);
            Twins.noSuch("service " + service + " ahead of -1", Make::busy, x -> x.request(service, -1) ? 1 : 0);
            Twins.noSuch("service " + service + " ahead of 1001", Make::busy, x -> x.request(service, 1001) ? 1 : 0);
        }
        Twins.noSuch("service 12", Make::full, x -> x.request(12, 5) ? 1 : 0);
        Expect.yes("service 11", Make.full().request(11, 5));
        Sentences.about(14, "Throws IllegalArgumentException if budget is out of range");
        int[] outside = {-1, 1001, LEAST_INT, MOST_INT};
        for (int budget : outside) {
            Twins.badArgument("budget " + budget, Make::busy, x -> x.request(2, budget) ? 1 : 0);
            Twins.badArgument("budget " + budget + ", of one that is down", Make::busy,
                    x -> x.request(1, budget) ? 1 : 0);
        }
        ServiceBudgets y = Make.many(1);
        Expect.badArgument("the first request", y, () -> y.request(0, 1001) ? 1 : 0);
        Expect.badState("there was no request then", y, () -> y.result(0));
    }

    private static void result() {
        Sentences.about(15, "- what: 0 the time it took, 1 the number of things that are missing (in all services "
                + "that were called, whether their requests succeeded or not), 2 the number of its failures that are "
                + "noted, 3 the number of its tries that are noted, 4 the service with which the blame lies (NONE if "
                + "it succeeded), 5 how often a service began to serve a request, the first one included (also if it "
                + "was down, or its own time was greater than its budget)");
        Notes.results("a request", Make.busy(), 5, 0, 4, 3, 1, 4);
        ServiceBudgets x = Make.services(1, 1, 1, 9);
        x.addCall(0, 1, 20, 2, 1);
        x.addCall(1, 2, 5, 1, 1);
        x.addCall(1, 2, 5, 1, 1);
        x.addCall(1, 3, 5, 1, 0);
        x.fail(2);
        Expect.yes("one that succeeds", x.request(0, 90));
        Notes.results("one that succeeds", x, 13, 5, 8, 8, NONE, 9);
        x.setLimit(3, 9);
        Expect.yes("a callee that succeeds with two things missing", x.request(0, 90));
        Notes.results("a callee that succeeds with two things missing", x, 11, 2, 2, 4, NONE, 5);
        Expect.no("a budget of 0", x.request(0, 0));
        Notes.results("a budget of 0", x, 0, 0, 1, 0, 0, 1);
        Expect.no("down", x.request(2, 9));
        Notes.results("down", x, 0, 0, 1, 0, 2, 1);
        Twins.changesNothing("result()", Make::busy, y -> y.result(4));
    }

    private static void resultRefused() {
        Sentences.about(15, "Throws IllegalArgumentException if what is out of range");
        int[] outside = {-1, 6, LEAST_INT, MOST_INT};
        for (int what : outside) {
            Twins.badArgument("what " + what, Make::busy, x -> x.result(what));
            Twins.badArgument("what " + what + " ahead of no request", Make::full, x -> x.result(what));
        }
        Expect.same("what 0", Make.busy().result(0), 5);
        Expect.same("what 5", Make.busy().result(5), 4);
        Sentences.about(15, "Throws IllegalStateException if there was no request");
        for (int what = 0; what <= 5; what++) {
            int w = what;
            Twins.badState("what " + w, Make::full, x -> x.result(w));
        }
        ServiceBudgets y = Make.many(1);
        y.leastBudget(0);
        Expect.badState("leastBudget() is no request", y, () -> y.result(0));
        y.request(0, 0);
        Expect.same("a request that fails is one", y.result(0), 0);
    }

    private static void failure() {
        Sentences.about(16, "- what: 0 the service, 1 the kind, 2 the moment, 3 the budget of the service");
        Notes.failures("all of them", Make.busy(), Notes.row(1, 1, 5, 30), Notes.row(1, 1, 5, 30),
                Notes.row(3, 1, 5, 25), Notes.row(0, 4, 5, 40));
        Twins.changesNothing("failure()", Make::busy, x -> x.failure(3, 3));
        Sentences.about(16, "Returns that number; NONE if there is no such failure.");
        int[] none = {-1, 4, 59, 60, 61, LEAST_INT, MOST_INT};
        for (int k : none) {
            Notes.failure("of four", Make.busy(), k, NONE, NONE, NONE, NONE);
            Notes.failure("without a request", Make.full(), k, NONE, NONE, NONE, NONE);
        }
        ServiceBudgets y = inVain(60);
        y.request(0, 9);
        Notes.failure("the last one of 60", y, 59, 1, 1, 1, 5);
        Notes.failure("behind 60", y, 60, NONE, NONE, NONE, NONE);
        Expect.yes("a request without failures", y.request(0, 1));
        Expect.no("one failure", y.request(0, 0));
        Notes.failures("one failure", y, Notes.row(0, 2, 0, 0));
        Sentences.about(16, "Throws IllegalArgumentException if what is out of range");
        int[] outside = {-1, 4, LEAST_INT, MOST_INT};
        for (int what : outside) {
            Twins.badArgument("what " + what, Make::busy, x -> x.failure(0, what));
            Twins.badArgument("what " + what + " of none", Make::busy, x -> x.failure(4, what));
            Twins.badArgument("what " + what + " of -1", Make::busy, x -> x.failure(-1, what));
            Twins.badArgument("what " + what + " without a request", ServiceBudgets::new, x -> x.failure(0, what));
        }
    }

    private static void attempt() {
        Sentences.about(17, "Returns something about a try of the latest request; tries are numbered from 0 in the "
                + "order in which they began.");
        ServiceBudgets x = Make.many(3);
        x.addCall(1, 2, 9, 1, 0);
        x.addCall(0, 1, 9, 1, 0);
        x.addCall(0, 2, 9, 1, 0);
        x.request(0, 20);
        Notes.attempts("the outer one began first", x, Notes.row(1, 1, 9, 1), Notes.row(0, 2, 8, 1),
                Notes.row(2, 3, 9, 1));
        Sentences.about(17, "- what: 0 the call, 1 the moment at which it began, 2 the budget that the callee got, 3 "
                + "1 if it succeeded, otherwise 0");
        Notes.attempts("all of them", Make.busy(), Notes.row(0, 5, 30, 0), Notes.row(0, 5, 30, 0),
                Notes.row(2, 5, 25, 0));
        Twins.changesNothing("attempt()", Make::busy, y -> y.attempt(2, 3));
        Sentences.about(17, "Returns that number; NONE if there is no such try.");
        int[] none = {-1, 3, 199, 200, 201, LEAST_INT, MOST_INT};
        for (int k : none) {
            Notes.attempt("of three", Make.busy(), k, NONE, NONE, NONE, NONE);
            Notes.attempt("without a request", Make.full(), k, NONE, NONE, NONE, NONE);
        }
        Sentences.about(17, "Throws IllegalArgumentException if what is out of range");
        int[] outside = {-1, 4, LEAST_INT, MOST_INT};
        for (int what : outside) {
            Twins.badArgument("what " + what, Make::busy, y -> y.attempt(0, what));
            Twins.badArgument("what " + what + " of none", Make::busy, y -> y.attempt(3, what));
            Twins.badArgument("what " + what + " of -1", Make::busy, y -> y.attempt(-1, what));
            Twins.badArgument("what " + what + " without a request", ServiceBudgets::new, y -> y.attempt(0, what));
        }
    }
}
