/** Promises 37 to 41. */
public final class TextAndStateTest {
    private static final int NONE = ServiceBudgets.NONE;

    public static void main(String[] args) {
        append();
        clearText();
        syntax();
        numberOfNumbers();
        commands();
        refusedCommands();
        longText();
        executeAndUndo();
        undo();
        undoOfAll();
        digest();
        Expect.finish();
    }

    // Promise 37
    private static void append() {
        ServiceBudgets x = new ServiceBudgets();
        Expect.badArgument("37 append(-1)", x, () -> x.append(-1));
        Expect.badArgument("37 append(128)", x, () -> x.append(128));
        for (int k = 1; k <= 120; k++) {
            Expect.same("37 append()", x.append(k % 2 == 0 ? 0 : 127), k);
        }
        Expect.badArgument("37 append(128) beyond 120", x, () -> x.append(128));
        Expect.badState("37 append(0) beyond 120", x, () -> x.append(0));
        Expect.badState("37 append() is not undoable", () -> x.undo());
    }

    // Promise 38
    private static void clearText() {
        ServiceBudgets x = Make.many(1);
        Expect.same("38 clearText() without a text", x.clearText(), 0);
        Make.write(x, "a5;");
        Expect.same("38 clearText()", x.clearText(), 3);
        Expect.same("38 clearText() once more", x.clearText(), 0);
        Expect.same("38 append() after it", x.append('a'), 1);
        Expect.same("38 the old text is gone", x.execute(), -11);
        x.undo();
        Expect.same("38 undo() leaves the text", x.clearText(), 1);
    }

    private static void error(String text, int position) {
        ServiceBudgets x = Make.many(3);
        Make.write(x, text);
        long before = x.digest();
        Expect.same("39 execute() of " + text, x.execute(), -10 - position);
        Expect.same("39 digest() after " + text, x.digest(), before);
    }

    // Promise 39
    private static void syntax() {
        error("a", 1);
        error("a5", 2);
        error("a55", 3);
        error("a555", 4);
        error("a5555;", 4);
        error("a;", 1);
        error("a,", 1);
        error("aa5;", 1);
        error("a5,", 2);
        error("a5;;", 3);
        error("a5; a5;", 3);
        error(" a5;", 0);
        error("b5;", 0);
        error("A5;", 0);
        error("5;", 0);
        error(";", 0);
        error("a-5;", 1);
        error("a5a", 2);
        error("a5/", 2);
        error("a/", 1);
        error("a:", 1);
        error("a5;d1;x", 6);
        error("a5;d1;c", 7);
        error("a5;a", 4);
        error("a999;d9999;", 9);
        error("a5;" + (char) 0, 3);
        error("d0;d0;d", 7);
    }

    private static void numberOfNumbers() {
        error("c0,1,5,1;", 8);
        error("c0,1,5,1,0,", 10);
        error("c0,1,5,1,0,0;", 10);
        error("c0,1,5,1,0", 10);
        error("c0,1,5,1,", 9);
        error("c0,,", 3);
        error("c0,1000,1,1,1;", 6);
        error("c0;", 2);
        error("p0,1;", 4);
        error("p0,1,2,", 6);
        error("p0,1,2", 6);
        error("p0,1,", 5);
        error("d0,1;", 2);
        error("r0,1;", 2);
        error("s1,1;", 2);
        error("d;", 1);
        error("r;", 1);
        error("s;", 1);
        error("p;", 1);
    }

    private static void commands() {
        ServiceBudgets x = new ServiceBudgets();
        Expect.same("39 no commands", x.execute(), 0);
        Expect.same("39 no commands are saved too", x.undo(), 0);
        Expect.same("39 all commands", Make.execute(x, "a5;a010;a3;c0,1,30,2,0;c0,2,9,001,2;p5,2,1;d1;d2;s1;r2;"), 10);
        Expect.same("39 services()", x.services(), 3);
        Expect.same("39 a number with a 0 ahead", x.service(1, 0), 10);
        Expect.same("39 calls()", x.calls(), 2);
        int[] due = {0, 2, 9, 1, 2, 0};
        for (int what = 0; what < 6; what++) {
            Expect.same("39 call(1, " + what + ")", x.call(1, what), due[what]);
        }
        Expect.same("39 p", x.service(2, 5), 1);
        Expect.same("39 d", x.down(), 6);
        Expect.same("39 s", x.service(0, 7), 1);
        Expect.same("39 r", x.service(2, 8), 3);
        Expect.same("39 the text stays", x.clearText(), 55);
        Expect.same("39 one saved state", x.undo(), 0);
        Expect.same("39 services() after undo()", x.services(), 0);
        ServiceBudgets y = new ServiceBudgets();
        Make.write(y, "a5;");
        Expect.same("39 execute()", y.execute(), 1);
        Expect.same("39 execute() once more", y.execute(), 1);
        Expect.same("39 two services", y.services(), 2);
        ServiceBudgets z = Make.many(1);
        Expect.same("39 the greatest number of steps", Make.execute(z, "s50;"), 1);
    }

    private static void refused(String text, int command) {
        ServiceBudgets x = Make.chain(2);
        x.request(0, 9);
        x.undo();
        Make.write(x, text);
        long before = x.digest();
        Expect.same("39 execute() of " + text, x.execute(), -1000 - command);
        Expect.same("39 nothing changes by " + text, x.digest(), before);
        Expect.same("39 the text stays, " + text, x.clearText(), text.length());
        Expect.same("39 the request stays, " + text, x.result(0), 2);
        Expect.same("39 undo() after " + text, x.undo(), 1);
    }

    private static void refusedCommands() {
        refused("a0;", 0);
        refused("a101;", 0);
        refused("a5;a6;a0;a7;", 2);
        refused("a1;a1;a1;a1;a1;a1;a1;a1;a1;a1;a1;", 10);
        refused("c0,1,5,1,2;", 0);
        refused("c0,2,5,1,0;", 0);
        refused("c0,1,0,1,0;", 0);
        refused("c0,1,501,1,0;", 0);
        refused("c0,1,5,4,0;", 0);
        refused("c0,1,5,1,3;", 0);
        refused("c0,1,5,1,0;c1,0,5,1,0;", 1);
        refused("d0;d0;", 1);
        refused("d2;", 0);
        refused("d0;r0;r0;", 2);
        refused("r0;", 0);
        refused("r999;", 0);
        refused("s0;", 0);
        refused("d1;r1;s3;s51;", 3);
        refused("p6,0,1;", 0);
        refused("p0,2,1;", 0);
        refused("p1,0,49;", 0);
        refused("p0,0,7;p5,0,999;p4,0,0;", 2);
    }

    private static void longText() {
        StringBuilder text = new StringBuilder();
        for (int k = 0; k < 20; k++) {
            text.append("d0;s1;");
        }
        ServiceBudgets x = Make.many(1);
        Expect.same("39 a text of 120 bytes", Make.execute(x, text.toString()), -1002);
        StringBuilder steps = new StringBuilder();
        for (int k = 0; k < 40; k++) {
            steps.append("s1;");
        }
        Expect.same("39 forty commands", Make.execute(x, steps.toString()), 40);
        steps.setCharAt(119, ',');
        Expect.same("39 an error at the very end", Make.execute(x, steps.toString()), -129);
        steps.setCharAt(119, '1');
        Expect.same("39 120 bytes end too early", Make.execute(x, steps.toString()), -130);
    }

    private static void executeAndUndo() {
        ServiceBudgets x = Make.many(2);
        x.set(0, 0, 2);
        x.set(0, 0, 3);
        Expect.same("39 with four states saved", Make.execute(x, "p0,0,4;p0,0,5;"), 2);
        Expect.same("40 the state before execute()", x.undo(), 3);
        Expect.same("40 service(0, 0)", x.service(0, 0), 3);
        Expect.same("40 refused commands save nothing", Make.execute(x, "p0,0,4;p0,0,0;"), -1001);
        Expect.same("40 undo() after them", x.undo(), 2);
        Expect.same("40 service(0, 0) after them", x.service(0, 0), 2);
    }

    // Promise 40
    private static void undo() {
        ServiceBudgets x = new ServiceBudgets();
        Expect.badState("40 undo() of nothing", x, () -> x.undo());
        for (int work = 1; work <= 6; work++) {
            x.addService(work);
        }
        for (int left = 3; left >= 0; left--) {
            Expect.same("40 undo()", x.undo(), left);
            Expect.same("40 services()", x.services(), 2 + left);
        }
        Expect.badState("40 a fifth undo()", x, () -> x.undo());
        x.addService(50);
        Expect.same("40 service(2, 0)", x.service(2, 0), 50);
        x.set(0, 0, 9);
        x.undo();
        x.set(0, 1, 8);
        Expect.same("40 undo() behind another one", x.undo(), 1);
        Expect.same("40 service(1, 0)", x.service(1, 0), 2);
        Expect.same("40 service(0, 0)", x.service(0, 0), 1);
        Expect.badArgument("40 refused", () -> x.set(0, 0, 0));
        Expect.same("40 nothing is saved for what is refused", x.undo(), 0);
        Expect.same("40 services() then", x.services(), 2);
        Make.write(x, "a5;");
        x.addService(1);
        x.undo();
        Expect.same("40 the text is no part of the state", x.clearText(), 3);
    }

    private static void undoOfAll() {
        ServiceBudgets x = Make.chain(3);
        x.fail(2);
        x.repair(2);
        x.steps(1);
        Expect.same("40 rest", x.service(2, 8), 2);
        Expect.same("40 strain", x.service(1, 7), 1);
        x.steps(2);
        Expect.same("40 up and down", x.down(), 2);
        x.undo();
        Expect.same("40 up and down again", x.down(), 4);
        Expect.same("40 rest again", x.service(2, 8), 2);
        Expect.same("40 strain again", x.service(1, 7), 1);
        x.undo();
        Expect.same("40 rest at the beginning", x.service(2, 8), 3);
        x.undo();
        Expect.same("40 not under repair", x.service(2, 8), NONE);
        x.undo();
        Expect.same("40 all up", x.down(), 0);
        x.removeCall(0);
        x.undo();
        Expect.same("40 the calls", x.calls(), 2);
        Expect.same("40 a caller", x.call(1, 0), 1);
    }

    private static long next(long h, int value) {
        return 31 * h + value;
    }

    private static long due(ServiceBudgets x, int length, int saved) {
        long h = next(1851, x.services());
        for (int s = 0; s < x.services(); s++) {
            for (int what = 0; what <= 10; what++) {
                h = next(h, x.service(s, what));
            }
            h = next(h, x.worst(s));
        }
        h = next(h, x.calls());
        for (int c = 0; c < x.calls(); c++) {
            for (int what = 0; what <= 5; what++) {
                h = next(h, x.call(c, what));
            }
        }
        h = next(h, x.unsound());
        h = next(h, x.down());
        h = next(h, x.recoveryTime(2));
        h = next(h, x.bestCost());
        h = next(h, length);
        return next(h, saved);
    }

    // Promise 41
    private static void digest() {
        ServiceBudgets x = new ServiceBudgets();
        Expect.same("41 a new object", x.digest(), due(x, 0, 0));
        x.addService(7);
        Expect.same("41 one service", x.digest(), due(x, 0, 1));
        x.addService(9);
        x.addService(2);
        x.addService(4);
        x.addCall(0, 1, 5, 2, 0);
        x.addCall(0, 2, 50, 1, 2);
        x.addCall(1, 3, 6, 3, 1);
        Expect.same("41 with calls", x.digest(), due(x, 0, 4));
        x.append('x');
        x.append('y');
        x.fail(1);
        x.fail(3);
        x.fail(2);
        x.repair(3);
        x.steps(1);
        Expect.same("41 with some down", x.digest(), due(x, 2, 4));
        long before = x.digest();
        Expect.same("41 it changes nothing", x.digest(), before);
        x.undo();
        Expect.same("41 after undo()", x.digest(), due(x, 2, 3));
        ServiceBudgets y = Make.many(4);
        for (int k = 0; k < 4; k++) {
            y.fail(k);
            y.set(3, k, 1 + 2 * k);
            Expect.same("41 for two crews", y.digest(), due(y, 0, 4));
        }
    }
}
