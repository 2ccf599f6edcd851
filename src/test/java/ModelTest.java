import java.util.Random;

/** Long random runs of calls, each answer (or exception) compared with the model's. */
public final class ModelTest {
    private static final int RUNS = 700;
    private static final int CALLS = 505;
    /** The model goes through all orders, so it is asked for the best one of a few services only. */
    private static final int MOST_DOWN = 7;

    private Random random;
    private ServiceBudgets real;
    private Model model;
    private int most;
    private String name;
    /** A calm run fails few services, so that its requests go far; the others live by failures and repairs. */
    private boolean calm;
    private static long seen = 0;

    /** A call on the class or on the model. */
    private interface Action {
        long run();
    }

    public static void main(String[] args) {
        for (int seed = 0; seed < RUNS; seed++) {
            new ModelTest().play(seed);
        }
        Expect.yes(seen + " answers were compared", seen > 1_000_000);
        System.out.println(seen + " answers were compared");
        Expect.finish();
    }

    private static String outcome(Action action) {
        try {
            return Long.toString(action.run());
        } catch (RuntimeException e) {
            return e.getClass().getSimpleName();
        }
    }

    private void compare(String call, Action of, Action due) {
        String got = outcome(of);
        String want = outcome(due);
        seen++;
        if (!got.equals(want)) {
            Expect.same(name + ": " + call + " answered " + got + ", the model " + want, 0, 1);
        }
    }

    private static long number(boolean value) {
        return value ? 1 : 0;
    }

    private int any(int from, int to) {
        return from + random.nextInt(to - from + 1);
    }

    /** Mostly within the range, now and then just outside, rarely far away. */
    private int near(int from, int to) {
        int dice = random.nextInt(60);
        if (dice == 0) {
            return from - 1;
        }
        if (dice == 1) {
            return to + 1;
        }
        if (dice == 2) {
            return random.nextInt();
        }
        if (dice < 8) {
            return random.nextBoolean() ? from : Math.max(from, to);
        }
        return to < from ? from : any(from, to);
    }

    private int aService() {
        return near(0, model.services() - 1);
    }

    private int aCall() {
        return near(0, model.calls() - 1);
    }

    private void play(int seed) {
        random = new Random(seed);
        real = new ServiceBudgets();
        model = new Model();
        name = "run " + seed;
        most = any(2, 12);
        int eager = any(10, 90);
        calm = seed % 3 != 0;
        for (int k = 0; k < CALLS; k++) {
            boolean grow = model.services() < most && random.nextInt(100) < eager;
            if (grow) {
                addService();
            } else if (random.nextInt(100) < 25) {
                change();
            } else if (random.nextInt(100) < 40) {
                ask();
            } else {
                askMore();
            }
            if (k % 8 == 0) {
                digest();
            }
        }
    }

    private void addService() {
        int work = random.nextInt(4) == 0 ? near(1, 100) : near(1, 12);
        compare("addService(" + work + ")", () -> real.addService(work), () -> model.addService(work));
    }

    private void addCall() {
        int a = aService();
        int b = aService();
        // Most calls go from a low service to a high one, so that few are refused.
        boolean turn = a > b && random.nextInt(5) != 0;
        int caller = turn ? b : a;
        int callee = turn ? a : b;
        int limit = random.nextInt(3) == 0 ? near(1, 500) : near(1, 60);
        int tries = near(1, 3);
        int kind = random.nextInt(3) == 0 ? near(0, 2) : random.nextInt(2) * 2;
        compare("addCall(" + caller + ", " + callee + ", " + limit + ", " + tries + ", " + kind + ")",
                () -> real.addCall(caller, callee, limit, tries, kind),
                () -> model.addCall(caller, callee, limit, tries, kind));
    }

    private void set() {
        int[][] ranges = {{1, 100}, {50, 400}, {1, 9}, {1, 20}, {1, 9}, {0, 1000}};
        int what = near(0, 5);
        int service = aService();
        int[] range = what >= 0 && what <= 5 ? ranges[what] : new int[] {0, 9};
        int value = near(range[0], range[1]);
        compare("set(" + what + ", " + service + ", " + value + ")",
                () -> real.set(what, service, value), () -> model.set(what, service, value));
    }

    private void change() {
        int service = aService();
        int call = aCall();
        int n = random.nextInt(3) == 0 ? near(1, 50) : near(1, 3);
        int limit = near(1, 500);
        int kind = random.nextInt(calm ? 40 : 14);
        // In a calm run what goes down, and what brings others down, is mostly taken back.
        if (calm && kind >= 5 && kind <= 8 && random.nextInt(4) != 0) {
            kind = model.down() == 0 ? 13 : 9;
        }
        switch (kind) {
            case 0:
                compare("removeCall(" + call + ")", () -> real.removeCall(call), () -> model.removeCall(call));
                break;
            case 1:
            case 2:
                set();
                break;
            case 3:
                compare("setLimit(" + call + ", " + limit + ")",
                        () -> real.setLimit(call, limit), () -> model.setLimit(call, limit));
                break;
            case 4:
                if (random.nextInt(4) == 0) {
                    compare("tighten()", () -> real.tighten(), () -> model.tighten());
                }
                break;
            case 5:
            case 6:
                compare("fail(" + service + ")", () -> real.fail(service), () -> model.fail(service));
                break;
            case 7:
                compare("repair(" + service + ")", () -> real.repair(service), () -> model.repair(service));
                break;
            case 8:
                compare("steps(" + n + ")", () -> real.steps(n), () -> model.steps(n));
                break;
            case 9:
                compare("undo()", () -> real.undo(), () -> model.undo());
                break;
            case 10:
                commands();
                break;
            default:
                addCall();
                break;
        }
    }

    private void ask() {
        int one = aService();
        int other = aService();
        int call = aCall();
        int place = near(0, model.services());
        int what = near(0, 10);
        int part = near(0, 5);
        compare("services()", () -> real.services(), () -> model.services());
        compare("calls()", () -> real.calls(), () -> model.calls());
        compare("service(" + one + ", " + what + ")", () -> real.service(one, what), () -> model.service(one, what));
        compare("call(" + call + ", " + part + ")", () -> real.call(call, part), () -> model.call(call, part));
        compare("depends(" + one + ", " + other + ")",
                () -> number(real.depends(one, other)), () -> number(model.depends(one, other)));
        compare("order(" + place + ")", () -> real.order(place), () -> model.order(place));
        compare("level(" + one + ")", () -> real.level(one), () -> model.level(one));
        compare("worst(" + one + ")", () -> real.worst(one), () -> model.worst(one));
        compare("unsound()", () -> real.unsound(), () -> model.unsound());
        compare("down()", () -> real.down(), () -> model.down());
        compare("spread(" + one + ")", () -> real.spread(one), () -> model.spread(one));
        compare("calm(" + one + ")", () -> real.calm(one), () -> model.calm(one));
    }

    private void askMore() {
        switch (random.nextInt(6)) {
            case 0:
            case 1:
                request();
                break;
            case 2:
            case 3:
                recovery();
                break;
            case 4:
                if (random.nextInt(3) == 0) {
                    sets();
                }
                break;
            default:
                if (random.nextInt(3) == 0) {
                    int service = aService();
                    compare("leastBudget(" + service + ")",
                            () -> real.leastBudget(service), () -> model.leastBudget(service));
                }
                break;
        }
    }

    private void request() {
        int service = aService();
        int budget = random.nextBoolean() ? near(0, 1000) : near(0, 80);
        compare("request(" + service + ", " + budget + ")",
                () -> number(real.request(service, budget)), () -> number(model.request(service, budget)));
        if (outcome(() -> real.result(0)).equals("IllegalStateException")) {
            return;
        }
        for (int what = -1; what <= 6; what++) {
            int k = what;
            compare("result(" + k + ")", () -> real.result(k), () -> model.result(k));
        }
        for (int k = -1; k <= real.result(2) + 1; k++) {
            int f = k;
            int what = near(0, 3);
            compare("failure(" + f + ", " + what + ")", () -> real.failure(f, what), () -> model.failure(f, what));
        }
        for (int k = -1; k <= real.result(3) + 1; k++) {
            int t = k;
            int what = near(0, 3);
            compare("attempt(" + t + ", " + what + ")", () -> real.attempt(t, what), () -> model.attempt(t, what));
        }
    }

    private void recovery() {
        int crews = near(1, 4);
        compare("recoveryTime(" + crews + ")", () -> real.recoveryTime(crews), () -> model.recoveryTime(crews));
        for (int s = -1; s <= model.services(); s++) {
            int service = s;
            compare("recoveryStart(" + crews + ", " + service + ")",
                    () -> real.recoveryStart(crews, service), () -> model.recoveryStart(crews, service));
        }
        if (Integer.bitCount(model.down()) > MOST_DOWN) {
            return;
        }
        compare("bestCost()", () -> real.bestCost(), () -> model.bestCost());
        for (int k = -1; k <= Integer.bitCount(model.down()); k++) {
            int place = k;
            compare("bestOrder(" + place + ")", () -> real.bestOrder(place), () -> model.bestOrder(place));
        }
    }

    private void sets() {
        int service = aService();
        int size = random.nextInt(3) == 0 ? near(1, 12) : near(1, 3);
        int set = random.nextInt(20) == 0 ? random.nextInt() : random.nextInt(1 << model.services());
        compare("failsBy(" + service + ", " + set + ")",
                () -> number(real.failsBy(service, set)), () -> number(model.failsBy(service, set)));
        compare("cuts(" + service + ", " + size + ")",
                () -> real.cuts(service, size), () -> model.cuts(service, size));
        int k = random.nextInt(5) - 1;
        compare("cut(" + service + ", " + size + ", " + k + ")",
                () -> real.cut(service, size, k), () -> model.cut(service, size, k));
        if (random.nextInt(1 << model.services() / 3) == 0) {
            compare("availability(" + service + ")",
                    () -> real.availability(service), () -> model.availability(service));
            compare("weakest(" + service + ")", () -> real.weakest(service), () -> model.weakest(service));
        }
    }

    private int aNumber() {
        return random.nextInt(3) == 0 ? random.nextInt(20) : random.nextInt(5);
    }

    private String aCommand() {
        switch (random.nextInt(6)) {
            case 0:
                return "a" + aNumber() + ";";
            case 1:
                return "c" + aNumber() + "," + aNumber() + "," + aNumber() * 37 + "," + any(1, 3) + "," + any(0, 2)
                        + ";";
            case 2:
                return "d" + aNumber() + ";";
            case 3:
                return "r" + aNumber() + ";";
            case 4:
                return "s" + aNumber() + ";";
            default:
                int what = any(0, 5);
                int[] usual = {5, 150, 3, 7, 4, 900};
                return "p" + what + "," + aNumber() + "," + (usual[what] + aNumber()) + ";";
        }
    }

    private void commands() {
        compare("clearText()", () -> real.clearText(), () -> model.clearText());
        StringBuilder text = new StringBuilder();
        int count = random.nextInt(10) == 0 ? 60 : random.nextInt(4);
        for (int k = 0; k < count; k++) {
            text.append(aCommand());
        }
        if (random.nextInt(3) == 0 && text.length() > 0) {
            int at = random.nextInt(text.length());
            String signs = ";,0123456789acdrspx/:-";
            char sign = random.nextInt(8) == 0 ? (char) near(0, 127) : signs.charAt(random.nextInt(signs.length()));
            switch (random.nextInt(3)) {
                case 0:
                    text.setCharAt(at, sign);
                    break;
                case 1:
                    text.insert(at, sign);
                    break;
                default:
                    text.setLength(at);
                    break;
            }
        }
        for (int k = 0; k < text.length(); k++) {
            int sign = text.charAt(k);
            compare("append(" + sign + ")", () -> real.append(sign), () -> model.append(sign));
        }
        compare("execute() of " + text, () -> real.execute(), () -> model.execute());
        digest();
    }

    private void digest() {
        boolean few = Integer.bitCount(model.down()) <= MOST_DOWN;
        int cost = few ? model.bestCost() : real.bestCost();
        compare("digest()", () -> real.digest(), () -> model.digest(cost));
    }
}
