/** Counts the answers that are not as due; each test ends with finish(). */
final class Expect {
    /** A call that may throw. */
    interface Action {
        long run();
    }

    private static int wrong = 0;
    private static int looked = 0;
    /** What the answers are about, ahead of each line that is printed. */
    private static String heading = "";

    private Expect() {
    }

    static void about(String what) {
        heading = what + ": ";
    }

    static int looked() {
        return looked;
    }

    static void same(String what, long got, long want) {
        looked++;
        if (got != want) {
            wrong++;
            System.out.println(heading + what + " answered " + got + ", due is " + want);
        }
    }

    static void yes(String what, boolean got) {
        same(what, got ? 1 : 0, 1);
    }

    static void no(String what, boolean got) {
        same(what, got ? 1 : 0, 0);
    }

    /** The exception must be of just this class: none of the Java machine's own, which are below some of them. */
    static void refusal(String what, Class<?> want, Action action) {
        looked++;
        String got = "the answer ";
        try {
            got = got + action.run();
        } catch (RuntimeException e) {
            if (e.getClass() == want) {
                return;
            }
            got = e.toString();
        }
        wrong++;
        System.out.println(heading + what + " gave " + got + ", due is " + want.getSimpleName());
    }

    static void noSuch(String what, Action action) {
        refusal(what, IndexOutOfBoundsException.class, action);
    }

    static void badArgument(String what, Action action) {
        refusal(what, IllegalArgumentException.class, action);
    }

    static void badState(String what, Action action) {
        refusal(what, IllegalStateException.class, action);
    }

    /** Refused, and the object is as it was. */
    static void noSuch(String what, ServiceBudgets x, Action action) {
        long before = x.digest();
        noSuch(what, action);
        same("digest() after " + what, x.digest(), before);
    }

    static void badArgument(String what, ServiceBudgets x, Action action) {
        long before = x.digest();
        badArgument(what, action);
        same("digest() after " + what, x.digest(), before);
    }

    static void badState(String what, ServiceBudgets x, Action action) {
        long before = x.digest();
        badState(what, action);
        same("digest() after " + what, x.digest(), before);
    }

    static void finish() {
        if (wrong == 0) {
            System.out.println("all of " + looked + " answers are as due");
            return;
        }
        System.out.println(wrong + " of " + looked + " answers are not as due");
        System.exit(1);
    }
}
