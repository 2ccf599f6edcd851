/** Objects to begin a test with. */
final class Make {
    private Make() {
    }

    /** An object with services of these works. */
    static ServiceBudgets services(int... works) {
        ServiceBudgets x = new ServiceBudgets();
        for (int work : works) {
            x.addService(work);
        }
        return x;
    }

    /** An object with so many services of work 1. */
    static ServiceBudgets many(int count) {
        ServiceBudgets x = new ServiceBudgets();
        for (int k = 0; k < count; k++) {
            x.addService(1);
        }
        return x;
    }

    /** Services 0 to count - 1, each of which needs the next one. */
    static ServiceBudgets chain(int count) {
        ServiceBudgets x = many(count);
        for (int k = 0; k + 1 < count; k++) {
            x.addCall(k, k + 1, 500, 1, 0);
        }
        return x;
    }

    static void write(ServiceBudgets x, String text) {
        x.clearText();
        for (int k = 0; k < text.length(); k++) {
            x.append(text.charAt(k));
        }
    }

    /** Writes a text over the old one and executes it. */
    static int execute(ServiceBudgets x, String text) {
        write(x, text);
        return x.execute();
    }
}
