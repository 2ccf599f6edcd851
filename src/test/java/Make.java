/** Objects to begin a test with. */
final class Make {
    private Make() {
    }

    /** An object with services of these works. */
    static ServiceBudgets services(int... works) {
        ServiceBudgets x = new ServiceBudgets();
        for (int work : works) {
            x.addService(work);
        }
        return x;
    }

    /** An object with so many services of work 1. */
    static ServiceBudgets many(int count) {
        ServiceBudgets x = new ServiceBudgets();
        for (int k = 0; k < count; k++) {
            x.addService(1);
        }
        return x;
    }

    /** Services 0 to count - 1, each of which needs the next one. */
    static ServiceBudgets chain(int count) {
        ServiceBudgets x = many(count);
        for (int k = 0; k + 1 < count; k++) {
            x.addCall(k, k + 1, 500, 1, 0);
        }
        return x;
    }

    /** An object with all there can be: strain, a service under repair, a failed request, a text, four saved states. */
    static ServiceBudgets busy() {
        ServiceBudgets x = services(5, 10, 3, 7);
        x.addCall(0, 1, 30, 2, 0);
        x.addCall(1, 2, 5, 1, 1);
        x.addCall(0, 3, 25, 1, 2);
        x.addCall(0, 2, 9, 3, 1);
        x.set(2, 0, 9);
        x.fail(1);
        x.fail(3);
        x.repair(3);
        x.steps(1);
        x.request(0, 40);
        write(x, "p0,0,6;s1;");
        return x;
    }

    /** Twelve services and as many calls as there can be, from the first one to the others. */
    static ServiceBudgets full() {
        ServiceBudgets x = many(12);
        for (int k = 0; k < 24; k++) {
            x.addCall(0, 1 + k % 11, 1 + k, 1, k % 3);
        }
        return x;
    }

    static void write(ServiceBudgets x, String text) {
        x.clearText();
        for (int k = 0; k < text.length(); k++) {
            x.append(text.charAt(k));
        }
    }

    /** Writes a text over the old one and executes it. */
    static int execute(ServiceBudgets x, String text) {
        write(x, text);
        return x.execute();
    }
}
