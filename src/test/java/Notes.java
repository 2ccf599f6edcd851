/** What is due of the latest request. */
final class Notes {
    private Notes() {
    }

    /** The answers of result(0) to result(5). */
    static void results(String name, ServiceBudgets x, int... due) {
        for (int what = 0; what < 6; what++) {
            Expect.same(name + " result(" + what + ")", x.result(what), due[what]);
        }
    }

    static void failure(String name, ServiceBudgets x, int k, int... due) {
        for (int what = 0; what < 4; what++) {
            Expect.same(name + " failure(" + k + ", " + what + ")", x.failure(k, what), due[what]);
        }
    }

    static void attempt(String name, ServiceBudgets x, int k, int... due) {
        for (int what = 0; what < 4; what++) {
            Expect.same(name + " attempt(" + k + ", " + what + ")", x.attempt(k, what), due[what]);
        }
    }

    /** All failures, and none behind them. */
    static void failures(String name, ServiceBudgets x, int[]... due) {
        for (int k = 0; k < due.length; k++) {
            failure(name, x, k, due[k]);
        }
        failure(name, x, due.length, -1, -1, -1, -1);
    }

    /** All tries, and none behind them. */
    static void attempts(String name, ServiceBudgets x, int[]... due) {
        for (int k = 0; k < due.length; k++) {
            attempt(name, x, k, due[k]);
        }
        attempt(name, x, due.length, -1, -1, -1, -1);
    }

    static int[] row(int... values) {
        return values;
    }
}
