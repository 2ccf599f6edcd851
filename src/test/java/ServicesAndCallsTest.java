/** Promises 1 to 13. */
public final class ServicesAndCallsTest {
    private static final int NONE = ServiceBudgets.NONE;

    public static void main(String[] args) {
        newObject();
        addService();
        addCall();
        addCallWrong();
        removeCall();
        set();
        setLimit();
        counts();
        service();
        call();
        depends();
        order();
        level();
        Expect.finish();
    }

    // Promise 1
    private static void newObject() {
        ServiceBudgets x = new ServiceBudgets();
        Expect.same("1 services()", x.services(), 0);
        Expect.same("1 calls()", x.calls(), 0);
        Expect.same("1 down()", x.down(), 0);
        Expect.same("1 failure(0, 0)", x.failure(0, 0), NONE);
        Expect.same("1 attempt(0, 0)", x.attempt(0, 0), NONE);
        Expect.badState("1 result(0)", () -> x.result(0));
        Expect.badState("1 undo()", () -> x.undo());
        Expect.same("1 digest()", x.digest(), 1851L * 852891037441L);
        Expect.same("1 clearText()", x.clearText(), 0);
        ServiceBudgets y = new ServiceBudgets();
        y.addService(5);
        Expect.same("1 services() of another object", x.services(), 0);
    }

    // Promise 2
    private static void addService() {
        ServiceBudgets x = new ServiceBudgets();
        Expect.badArgument("2 addService(0)", x, () -> x.addService(0));
        Expect.badArgument("2 addService(101)", x, () -> x.addService(101));
        Expect.badArgument("2 addService(least)", x, () -> x.addService(Integer.MIN_VALUE));
        Expect.badState("2 nothing was saved", () -> x.undo());
        Expect.same("2 addService(1)", x.addService(1), 0);
        Expect.same("2 addService(100)", x.addService(100), 1);
        int[] due = {100, 100, 2, 3, 1, 990, 1, 0, NONE, 100, 0};
        for (int what = 0; what < due.length; what++) {
            Expect.same("2 service(1, " + what + ")", x.service(1, what), due[what]);
        }
        for (int k = 2; k < 12; k++) {
            Expect.same("2 addService(7)", x.addService(7), k);
        }
        Expect.badArgument("2 addService(0) beyond 12", x, () -> x.addService(0));
        Expect.badState("2 addService(1) beyond 12", x, () -> x.addService(1));
        Expect.same("2 undo()", x.undo(), 3);
        Expect.same("2 services() after it", x.services(), 11);
        x.set(3, 10, 20);
        x.undo();
        Expect.same("2 addService(9) again", x.addService(9), 11);
        Expect.same("2 service(11, 3)", x.service(11, 3), 3);
        ServiceBudgets y = Make.many(1);
        Expect.same("2 a service with strain", Make.execute(y, "a5;c1,0,5,1,0;d0;s1;"), 4);
        Expect.same("2 service(1, 7)", y.service(1, 7), 1);
        y.undo();
        y.addService(5);
        Expect.same("2 service(1, 7) of a new one", y.service(1, 7), 0);
    }

    // Promise 3
    private static void addCall() {
        ServiceBudgets x = Make.many(4);
        Expect.same("3 addCall(0, 1, 1, 1, 0)", x.addCall(0, 1, 1, 1, 0), 0);
        Expect.same("3 addCall(0, 2, 500, 3, 1)", x.addCall(0, 2, 500, 3, 1), 1);
        Expect.same("3 addCall(1, 3, 7, 2, 0)", x.addCall(1, 3, 7, 2, 0), 2);
        Expect.same("3 addCall(0, 3, 8, 1, 2)", x.addCall(0, 3, 8, 1, 2), 3);
        int[] due = {0, 3, 8, 1, 2, 1};
        for (int what = 0; what < due.length; what++) {
            Expect.same("3 call(3, " + what + ")", x.call(3, what), due[what]);
        }
        Expect.same("3 a second call to the same callee", x.addCall(0, 1, 9, 1, 0), 4);
        Expect.same("3 a replacement behind it", x.addCall(0, 1, 9, 1, 2), 5);
        Expect.same("3 belongs to the last call that is none", x.call(5, 5), 4);
        Expect.same("3 undo()", x.undo(), 3);
        Expect.same("3 calls() after it", x.calls(), 5);
    }

    private static void addCallWrong() {
        ServiceBudgets x = Make.many(3);
        x.addCall(0, 1, 10, 1, 0);
        x.addCall(1, 2, 10, 1, 1);
        Expect.noSuch("3 caller -1", x, () -> x.addCall(-1, 1, 10, 1, 0));
        Expect.noSuch("3 caller 3", x, () -> x.addCall(3, 1, 10, 1, 0));
        Expect.noSuch("3 callee -1", x, () -> x.addCall(0, -1, 10, 1, 0));
        Expect.noSuch("3 callee 3 comes ahead of limit 0", x, () -> x.addCall(0, 3, 0, 1, 0));
        Expect.badArgument("3 limit 0", x, () -> x.addCall(0, 1, 0, 1, 0));
        Expect.badArgument("3 limit 501", x, () -> x.addCall(0, 1, 501, 1, 0));
        Expect.badArgument("3 tries 0", x, () -> x.addCall(0, 1, 10, 0, 0));
        Expect.badArgument("3 tries 4", x, () -> x.addCall(0, 1, 10, 4, 0));
        Expect.badArgument("3 kind -1", x, () -> x.addCall(0, 1, 10, 1, -1));
        Expect.badArgument("3 kind 3 comes ahead of a circle", x, () -> x.addCall(0, 0, 10, 1, 3));
        Expect.badState("3 a service that calls itself", x, () -> x.addCall(0, 0, 10, 1, 0));
        Expect.badState("3 a circle of two", x, () -> x.addCall(1, 0, 10, 1, 0));
        Expect.badState("3 a circle of three", x, () -> x.addCall(2, 0, 10, 1, 1));
        Expect.badState("3 a replacement without a call", x, () -> x.addCall(2, 1, 10, 1, 2));
        ServiceBudgets y = Make.many(2);
        Expect.badState("3 a first call as a replacement", y, () -> y.addCall(0, 1, 10, 1, 2));
        for (int k = 0; k < 24; k++) {
            Expect.same("3 addCall()", y.addCall(0, 1, 10, 1, k % 3), k);
        }
        Expect.badState("3 a 25th call", y, () -> y.addCall(0, 1, 10, 1, 0));
    }

    // Promise 4
    private static void removeCall() {
        ServiceBudgets x = Make.many(4);
        x.addCall(0, 1, 10, 1, 0);
        x.addCall(0, 2, 20, 1, 0);
        x.addCall(0, 3, 30, 1, 2);
        x.addCall(1, 3, 40, 1, 1);
        Expect.noSuch("4 removeCall(-1)", x, () -> x.removeCall(-1));
        Expect.noSuch("4 removeCall(4)", x, () -> x.removeCall(4));
        Expect.badState("4 a call with a replacement", x, () -> x.removeCall(1));
        Expect.same("4 removeCall(0)", x.removeCall(0), 3);
        Expect.same("4 the one behind moves up", x.call(0, 2), 20);
        Expect.same("4 a replacement still belongs to it", x.call(1, 5), 0);
        Expect.same("4 the last one moves up", x.call(2, 2), 40);
        Expect.noSuch("4 removeCall(3)", x, () -> x.removeCall(3));
        Expect.badState("4 removeCall(0) with a replacement", x, () -> x.removeCall(0));
        Expect.same("4 removeCall(1)", x.removeCall(1), 2);
        Expect.same("4 removeCall(0) without one", x.removeCall(0), 1);
        Expect.badState("4 no call is left for a replacement", x, () -> x.addCall(0, 3, 30, 1, 2));
        Expect.same("4 undo()", x.undo(), 3);
        Expect.same("4 undo() of two", x.undo(), 2);
        Expect.same("4 call(1, 5)", x.call(1, 5), 0);
        Expect.same("4 undo() of three", x.undo(), 1);
        Expect.same("4 call(2, 5)", x.call(2, 5), 1);
        ServiceBudgets y = Make.many(2);
        for (int k = 0; k < 24; k++) {
            y.addCall(0, 1, k + 1, 1, 0);
        }
        Expect.same("4 removeCall(23)", y.removeCall(23), 23);
        Expect.same("4 removeCall(0) of many", y.removeCall(0), 22);
        Expect.same("4 call(21, 2)", y.call(21, 2), 23);
        Expect.same("4 the circle is gone", Make.chain(2).removeCall(0), 0);
    }

    // Promise 5
    private static void set() {
        int[] least = {1, 50, 1, 1, 1, 0};
        int[] most = {100, 400, 9, 20, 9, 1000};
        int[] initial = {5, 100, 2, 3, 1, 990};
        for (int what = 0; what < 6; what++) {
            int w = what;
            ServiceBudgets x = Make.services(4, 5);
            Expect.badArgument("5 too small", x, () -> x.set(w, 1, least[w] - 1));
            Expect.badArgument("5 too great", x, () -> x.set(w, 1, most[w] + 1));
            Expect.same("5 set to the least", x.set(w, 1, least[w]), initial[w]);
            Expect.same("5 set to the most", x.set(w, 1, most[w]), least[w]);
            Expect.same("5 service()", x.service(1, w), most[w]);
            Expect.same("5 the same value once more", x.set(w, 1, most[w]), most[w]);
            Expect.same("5 undo()", x.undo(), 3);
            Expect.same("5 undo() once more", x.undo(), 2);
            Expect.same("5 service() after it", x.service(1, w), least[w]);
            Expect.same("5 the other service", x.service(0, w), w == 0 ? 4 : initial[w]);
        }
        ServiceBudgets x = Make.services(4, 5);
        Expect.noSuch("5 service -1", x, () -> x.set(0, -1, 5));
        Expect.noSuch("5 service 2 comes ahead of what", x, () -> x.set(6, 2, 5));
        Expect.badArgument("5 what -1", x, () -> x.set(-1, 0, 5));
        Expect.badArgument("5 what 6", x, () -> x.set(6, 0, 1));
        Expect.badArgument("5 what greatest", x, () -> x.set(Integer.MAX_VALUE, 0, 1));
    }

    // Promise 6
    private static void setLimit() {
        ServiceBudgets x = Make.chain(3);
        Expect.same("6 setLimit(1, 1)", x.setLimit(1, 1), 500);
        Expect.same("6 setLimit(1, 500)", x.setLimit(1, 500), 1);
        Expect.same("6 setLimit(1, 20)", x.setLimit(1, 20), 500);
        Expect.same("6 call(1, 2)", x.call(1, 2), 20);
        Expect.same("6 call(0, 2)", x.call(0, 2), 500);
        Expect.badArgument("6 limit 0", x, () -> x.setLimit(1, 0));
        Expect.badArgument("6 limit 501", x, () -> x.setLimit(1, 501));
        Expect.noSuch("6 call -1", x, () -> x.setLimit(-1, 1));
        Expect.noSuch("6 call 2 comes ahead of limit 0", x, () -> x.setLimit(2, 0));
        x.undo();
        Expect.same("6 call(1, 2) after undo()", x.call(1, 2), 500);
    }

    // Promises 7 and 8
    private static void counts() {
        ServiceBudgets x = Make.many(12);
        Expect.same("7 services()", x.services(), 12);
        for (int k = 0; k < 24; k++) {
            Expect.same("8 calls()", x.calls(), k);
            x.addCall(0, 1 + k % 11, 5, 1, 0);
        }
        Expect.same("8 calls() at the most", x.calls(), 24);
        x.undo();
        Expect.same("8 calls() after undo()", x.calls(), 23);
    }

    // Promise 9
    private static void service() {
        ServiceBudgets x = Make.services(7, 3, 4);
        x.addCall(0, 1, 9, 1, 0);
        x.addCall(0, 2, 9, 1, 1);
        x.addCall(0, 2, 9, 1, 2);
        x.set(1, 0, 150);
        Expect.same("9 own time 10.5 is rounded up", x.service(0, 9), 11);
        x.set(1, 0, 50);
        Expect.same("9 own time 3.5 is rounded up", x.service(0, 9), 4);
        x.set(1, 1, 400);
        Expect.same("9 own time 12", x.service(1, 9), 12);
        x.set(0, 1, 1);
        x.set(1, 1, 101);
        Expect.same("9 own time 1.01 is rounded up", x.service(1, 9), 2);
        x.set(1, 1, 50);
        Expect.same("9 own time 0.5 is rounded up", x.service(1, 9), 1);
        Expect.same("9 the calls of 0", x.service(0, 10), 3);
        Expect.same("9 the calls of 2", x.service(2, 10), 0);
        x.fail(1);
        Expect.same("9 up", x.service(0, 6), 1);
        Expect.same("9 down", x.service(1, 6), 0);
        Expect.same("9 rest, not under repair", x.service(1, 8), NONE);
        x.steps(1);
        Expect.same("9 strain", x.service(0, 7), 1);
        x.repair(1);
        Expect.same("9 rest", x.service(1, 8), 3);
        Expect.noSuch("9 service -1", () -> x.service(-1, 0));
        Expect.noSuch("9 service 3 comes ahead of what", () -> x.service(3, 11));
        Expect.badArgument("9 what -1", () -> x.service(0, -1));
        Expect.badArgument("9 what 11", () -> x.service(0, 11));
    }

    // Promise 10
    private static void call() {
        ServiceBudgets x = Make.many(3);
        x.addCall(0, 1, 17, 2, 1);
        x.addCall(1, 2, 18, 1, 0);
        x.addCall(0, 2, 19, 3, 2);
        x.addCall(1, 2, 20, 3, 2);
        int[][] due = {{0, 1, 17, 2, 1, NONE}, {1, 2, 18, 1, 0, NONE}, {0, 2, 19, 3, 2, 0}, {1, 2, 20, 3, 2, 1}};
        for (int call = 0; call < 4; call++) {
            for (int what = 0; what < 6; what++) {
                Expect.same("10 call(" + call + ", " + what + ")", x.call(call, what), due[call][what]);
            }
        }
        Expect.noSuch("10 call -1", () -> x.call(-1, 0));
        Expect.noSuch("10 call 4 comes ahead of what", () -> x.call(4, 6));
        Expect.badArgument("10 what -1", () -> x.call(0, -1));
        Expect.badArgument("10 what 6", () -> x.call(0, 6));
    }

    // Promise 11
    private static void depends() {
        ServiceBudgets x = Make.many(5);
        x.addCall(3, 1, 5, 1, 1);
        x.addCall(1, 0, 5, 1, 0);
        x.addCall(1, 4, 5, 1, 2);
        Expect.yes("11 directly", x.depends(3, 1));
        Expect.yes("11 by way of another", x.depends(3, 0));
        Expect.yes("11 by way of a replacement", x.depends(3, 4));
        Expect.no("11 the other way round", x.depends(0, 3));
        Expect.no("11 on itself", x.depends(3, 3));
        Expect.no("11 without calls", x.depends(2, 0));
        x.removeCall(2);
        Expect.no("11 without the replacement", x.depends(3, 4));
        Expect.yes("11 along a long chain", Make.chain(12).depends(0, 11));
        Expect.noSuch("11 one -1", () -> x.depends(-1, 0) ? 1 : 0);
        Expect.noSuch("11 one 5", () -> x.depends(5, 0) ? 1 : 0);
        Expect.noSuch("11 other -1", () -> x.depends(0, -1) ? 1 : 0);
        Expect.noSuch("11 other 5", () -> x.depends(0, 5) ? 1 : 0);
    }

    // Promise 12
    private static void order() {
        ServiceBudgets x = Make.many(5);
        x.addCall(0, 3, 5, 1, 0);
        x.addCall(3, 4, 5, 1, 1);
        int[] due = {1, 2, 4, 3, 0};
        for (int place = 0; place < 5; place++) {
            Expect.same("12 order(" + place + ")", x.order(place), due[place]);
        }
        x.addCall(1, 0, 5, 1, 0);
        int[] then = {2, 4, 3, 0, 1};
        for (int place = 0; place < 5; place++) {
            Expect.same("12 order(" + place + ") then", x.order(place), then[place]);
        }
        x.removeCall(1);
        x.removeCall(0);
        int[] least = {2, 3, 0, 1, 4};
        x.removeCall(0);
        x.addCall(0, 2, 5, 1, 0);
        x.addCall(0, 3, 5, 1, 2);
        x.addCall(1, 0, 5, 1, 0);
        for (int place = 0; place < 5; place++) {
            Expect.same("12 order(" + place + ") after removeCall()", x.order(place), least[place]);
        }
        Expect.same("12 order(-1)", x.order(-1), NONE);
        Expect.same("12 order(5)", x.order(5), NONE);
        Expect.same("12 order(greatest)", x.order(Integer.MAX_VALUE), NONE);
        Expect.same("12 order(0) without services", new ServiceBudgets().order(0), NONE);
    }

    // Promise 13
    private static void level() {
        ServiceBudgets x = Make.many(5);
        x.addCall(0, 1, 5, 1, 0);
        x.addCall(0, 2, 5, 1, 1);
        x.addCall(2, 3, 5, 1, 0);
        x.addCall(2, 4, 5, 1, 2);
        x.addCall(3, 4, 5, 1, 1);
        int[] due = {3, 0, 2, 1, 0};
        for (int service = 0; service < 5; service++) {
            Expect.same("13 level(" + service + ")", x.level(service), due[service]);
        }
        for (int k = 0; k < 5; k++) {
            x.removeCall(x.calls() - 1);
        }
        Expect.same("13 level(0) without calls", x.level(0), 0);
        Expect.same("13 level(0) of a long chain", Make.chain(12).level(0), 11);
        Expect.noSuch("13 level(-1)", () -> x.level(-1));
        Expect.noSuch("13 level(5)", () -> x.level(5));
    }
}
