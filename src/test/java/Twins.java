import java.util.ArrayList;
import java.util.List;

/**
 * Two objects that are made alike: one of them gets a call more, and must then answer in all things as the other one.
 * So more is seen than by digest(): the notes of the latest request, the saved states and the signs of the text too.
 */
final class Twins {
    /** Makes an object, each time the same. */
    interface Setup {
        ServiceBudgets make();
    }

    /** A call on an object. */
    interface Call {
        long on(ServiceBudgets x);
    }

    private Twins() {
    }

    static void noSuch(String what, Setup setup, Call call) {
        Expect.noSuch(what, () -> call.on(setup.make()));
        changesNothing(what, setup, call);
    }

    static void badArgument(String what, Setup setup, Call call) {
        Expect.badArgument(what, () -> call.on(setup.make()));
        changesNothing(what, setup, call);
    }

    static void badState(String what, Setup setup, Call call) {
        Expect.badState(what, () -> call.on(setup.make()));
        changesNothing(what, setup, call);
    }

    static void changesNothing(String what, Setup setup, Call call) {
        Call none = x -> 0;
        Expect.yes(what + " changes no service, call, note or saved state",
                statesAfter(setup, call).equals(statesAfter(setup, none)));
        Expect.yes(what + " does not change the text", textAfter(setup, call).equals(textAfter(setup, none)));
    }

    /** The call saves one state, for which the oldest of four is dropped; undo() brings each of them back in turn. */
    static void isUndoable(String what, Setup setup, Call call) {
        ServiceBudgets x = setup.make();
        call.on(x);
        ServiceBudgets y = setup.make();
        int saved = savedBy(setup.make());
        for (int left = Math.min(saved, 3); left >= 0; left--) {
            Expect.same(what + ", undo()", x.undo(), left);
            Expect.same(what + ", digest() after undo()", withoutSaved(x, left), withoutSaved(y, saved));
            if (left > 0) {
                saved = y.undo();
            }
        }
        Expect.badState(what + ", undo() once too often", () -> x.undo());
    }

    /** The number of saved states comes last in digest(), so that it can be taken off again. */
    private static long withoutSaved(ServiceBudgets x, int saved) {
        return x.digest() - saved;
    }

    /** The number of saved states, which are used up by it. */
    static int savedBy(ServiceBudgets x) {
        int count = 0;
        while (undone(x)) {
            count++;
        }
        return count;
    }

    private static boolean undone(ServiceBudgets x) {
        try {
            x.undo();
            return true;
        } catch (IllegalStateException e) {
            return false;
        }
    }

    private static ServiceBudgets after(Setup setup, Call call) {
        ServiceBudgets x = setup.make();
        try {
            call.on(x);
        } catch (IndexOutOfBoundsException | IllegalArgumentException | IllegalStateException e) {
            return x;
        }
        return x;
    }

    private static List<Long> statesAfter(Setup setup, Call call) {
        return states(after(setup, call));
    }

    private static List<Long> textAfter(Setup setup, Call call) {
        ServiceBudgets x = after(setup, call);
        List<Long> seen = new ArrayList<>();
        seen.add((long) x.execute());
        seen.add(x.digest());
        seen.add((long) x.clearText());
        return seen;
    }

    /** The notes and the state, then each saved state. */
    private static List<Long> states(ServiceBudgets x) {
        List<Long> seen = notes(x);
        seen.add(x.digest());
        while (undone(x)) {
            seen.add(x.digest());
        }
        return seen;
    }

    /** All that is said of the latest request. */
    static List<Long> notes(ServiceBudgets x) {
        List<Long> seen = new ArrayList<>();
        for (int what = 0; what <= 5; what++) {
            try {
                seen.add((long) x.result(what));
            } catch (IllegalStateException e) {
                return seen;
            }
        }
        for (int what = 0; what <= 3; what++) {
            for (int k = 0; k <= seen.get(2); k++) {
                seen.add((long) x.failure(k, what));
            }
            for (int k = 0; k <= seen.get(3); k++) {
                seen.add((long) x.attempt(k, what));
            }
        }
        return seen;
    }
}
