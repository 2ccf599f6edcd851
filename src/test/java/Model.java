import java.util.ArrayDeque;
import java.util.ArrayList;
import java.util.Deque;
import java.util.HashSet;
import java.util.List;
import java.util.Set;
import java.util.regex.Matcher;
import java.util.regex.Pattern;

/**
 * The document a second time, as literally as can be and without a thought to cost: the answers of ServiceBudgets are
 * compared with it. It shares no code and few ways with the class.
 */
final class Model {
    private static final int NONE = -1;
    private static final int[][] RANGES = {{1, 100}, {50, 400}, {1, 9}, {1, 20}, {1, 9}, {0, 1000}};

    /** A service, with its number. */
    static final class Service {
        int number;
        int[] values;
        boolean up = true;
        int strain = 0;
        Integer rest = null;

        Service copy() {
            Service copy = new Service();
            copy.number = number;
            copy.values = values.clone();
            copy.up = up;
            copy.strain = strain;
            copy.rest = rest;
            return copy;
        }

        int own() {
            return (int) Math.ceil(values[0] * values[1] / 100.0);
        }
    }

    /** A call; its number is its place in the list. */
    static final class Call {
        int caller;
        int callee;
        int limit;
        int tries;
        int kind;

        Call copy() {
            Call copy = new Call();
            copy.caller = caller;
            copy.callee = callee;
            copy.limit = limit;
            copy.tries = tries;
            copy.kind = kind;
            return copy;
        }
    }

    /** What undo() restores. */
    static final class State {
        final List<Service> services = new ArrayList<>();
        final List<Call> calls = new ArrayList<>();

        State copy() {
            State copy = new State();
            for (Service s : services) {
                copy.services.add(s.copy());
            }
            for (Call c : calls) {
                copy.calls.add(c.copy());
            }
            return copy;
        }
    }

    /** A request in progress or over. */
    static final class Request {
        boolean good;
        int time;
        int missing = 0;
        int served = 0;
        final List<int[]> failures = new ArrayList<>();
        final List<int[]> tries = new ArrayList<>();
    }

    private State state = new State();
    private final Deque<State> saved = new ArrayDeque<>();
    private Request latest = null;
    private String text = "";

    private void save(State before) {
        saved.addLast(before);
        if (saved.size() > 4) {
            saved.removeFirst();
        }
    }

    private void needService(int service) {
        if (service < 0 || service >= state.services.size()) {
            throw new IndexOutOfBoundsException();
        }
    }

    private void needCall(int call) {
        if (call < 0 || call >= state.calls.size()) {
            throw new IndexOutOfBoundsException();
        }
    }

    private static void need(boolean within) {
        if (!within) {
            throw new IllegalArgumentException();
        }
    }

    private static void needState(boolean possible) {
        if (!possible) {
            throw new IllegalStateException();
        }
    }

    // ---- services and calls

    int addService(int work) {
        need(work >= 1 && work <= 100);
        needState(state.services.size() < 12);
        save(state.copy());
        Service s = new Service();
        s.number = state.services.size();
        s.values = new int[] {work, 100, 2, 3, 1, 990};
        state.services.add(s);
        return s.number;
    }

    int addCall(int caller, int callee, int limit, int tries, int kind) {
        needService(caller);
        needService(callee);
        need(limit >= 1 && limit <= 500 && tries >= 1 && tries <= 3 && kind >= 0 && kind <= 2);
        needState(caller != callee && !depends(callee, caller));
        needState(kind != 2 || !callsOf(caller).isEmpty());
        needState(state.calls.size() < 24);
        save(state.copy());
        Call c = new Call();
        c.caller = caller;
        c.callee = callee;
        c.limit = limit;
        c.tries = tries;
        c.kind = kind;
        state.calls.add(c);
        return state.calls.size() - 1;
    }

    int removeCall(int call) {
        needCall(call);
        for (int other = 0; other < state.calls.size(); other++) {
            needState(call(other, 5) != call);
        }
        save(state.copy());
        state.calls.remove(call);
        return state.calls.size();
    }

    int set(int what, int service, int value) {
        needService(service);
        need(what >= 0 && what <= 5);
        need(value >= RANGES[what][0] && value <= RANGES[what][1]);
        save(state.copy());
        int before = state.services.get(service).values[what];
        state.services.get(service).values[what] = value;
        return before;
    }

    int setLimit(int call, int limit) {
        needCall(call);
        need(limit >= 1 && limit <= 500);
        save(state.copy());
        int before = state.calls.get(call).limit;
        state.calls.get(call).limit = limit;
        return before;
    }

    int services() {
        return state.services.size();
    }

    int calls() {
        return state.calls.size();
    }

    int service(int service, int what) {
        needService(service);
        need(what >= 0 && what <= 10);
        Service s = state.services.get(service);
        switch (what) {
            case 6:
                return s.up ? 1 : 0;
            case 7:
                return s.strain;
            case 8:
                return s.rest == null ? NONE : s.rest;
            case 9:
                return s.own();
            case 10:
                return callsOf(service).size();
            default:
                return s.values[what];
        }
    }

    int call(int call, int what) {
        needCall(call);
        need(what >= 0 && what <= 5);
        Call c = state.calls.get(call);
        int belongs = NONE;
        for (int other = 0; c.kind == 2 && other < call; other++) {
            Call o = state.calls.get(other);
            if (o.caller == c.caller && o.kind != 2) {
                belongs = other;
            }
        }
        return new int[] {c.caller, c.callee, c.limit, c.tries, c.kind, belongs}[what];
    }

    boolean depends(int one, int other) {
        needService(one);
        needService(other);
        for (Call c : state.calls) {
            if (c.caller == one && (c.callee == other || depends(c.callee, other))) {
                return true;
            }
        }
        return false;
    }

    private List<Call> callsOf(int service) {
        List<Call> list = new ArrayList<>();
        for (Call c : state.calls) {
            if (c.caller == service) {
                list.add(c);
            }
        }
        return list;
    }

    private List<List<Call>> groupsOf(int service) {
        List<List<Call>> groups = new ArrayList<>();
        for (Call c : callsOf(service)) {
            if (c.kind != 2) {
                groups.add(new ArrayList<>());
            }
            groups.get(groups.size() - 1).add(c);
        }
        return groups;
    }

    private List<Integer> wholeOrder() {
        List<Integer> order = new ArrayList<>();
        while (order.size() < services()) {
            for (int s = 0; s < services(); s++) {
                boolean ready = !order.contains(s);
                for (int t = 0; t < services(); t++) {
                    ready &= !depends(s, t) || order.contains(t);
                }
                if (ready) {
                    order.add(s);
                    break;
                }
            }
        }
        return order;
    }

    int order(int place) {
        return place < 0 || place >= services() ? NONE : wholeOrder().get(place);
    }

    int level(int service) {
        needService(service);
        int level = 0;
        for (Call c : callsOf(service)) {
            level = Math.max(level, 1 + level(c.callee));
        }
        return level;
    }

    // ---- requests

    boolean request(int service, int budget) {
        needService(service);
        need(budget >= 0 && budget <= 1000);
        latest = run(service, budget);
        return latest.good;
    }

    private Request run(int service, int budget) {
        Request r = new Request();
        int[] took = new int[1];
        r.good = serve(r, service, 0, budget, took);
        r.time = took[0];
        return r;
    }

    private boolean serve(Request r, int s, int m, int b, int[] took) {
        r.served++;
        Service service = state.services.get(s);
        took[0] = 0;
        if (!service.up) {
            r.failures.add(new int[] {s, 1, m, b});
            return false;
        }
        if (service.own() > b) {
            took[0] = b;
            r.failures.add(new int[] {s, 2, m + b, b});
            return false;
        }
        took[0] = service.own();
        for (List<Call> group : groupsOf(s)) {
            boolean one = false;
            for (Call c : group) {
                one = one || make(r, c, m, b, took);
            }
            if (!one && group.get(0).kind == 0) {
                r.failures.add(new int[] {s, 4, m + took[0], b});
                return false;
            }
            r.missing += one ? 0 : 1;
        }
        return true;
    }

    private boolean make(Request r, Call c, int m, int b, int[] took) {
        for (int k = 1; k <= c.tries; k++) {
            int left = b - took[0];
            if (left == 0) {
                r.failures.add(new int[] {c.caller, 3, m + took[0], b});
                return false;
            }
            int[] note = {state.calls.indexOf(c), m + took[0], Math.min(c.limit, left), 0};
            r.tries.add(note);
            int[] its = new int[1];
            boolean good = serve(r, c.callee, note[1], note[2], its);
            took[0] += its[0];
            if (good) {
                note[3] = 1;
                return true;
            }
        }
        return false;
    }

    int result(int what) {
        need(what >= 0 && what <= 5);
        needState(latest != null);
        switch (what) {
            case 0:
                return latest.time;
            case 1:
                return latest.missing;
            case 2:
                return Math.min(60, latest.failures.size());
            case 3:
                return Math.min(200, latest.tries.size());
            case 4:
                return blame();
            default:
                return latest.served;
        }
    }

    private int blame() {
        if (latest.good) {
            return NONE;
        }
        for (int[] f : latest.failures) {
            if (f[1] <= 2) {
                return f[0];
            }
        }
        return latest.failures.get(0)[0];
    }

    int failure(int k, int what) {
        need(what >= 0 && what <= 3);
        boolean there = latest != null && k >= 0 && k < Math.min(60, latest.failures.size());
        return there ? latest.failures.get(k)[what] : NONE;
    }

    int attempt(int k, int what) {
        need(what >= 0 && what <= 3);
        boolean there = latest != null && k >= 0 && k < Math.min(200, latest.tries.size());
        return there ? latest.tries.get(k)[what] : NONE;
    }

    int leastBudget(int service) {
        needService(service);
        for (int budget = 0; budget <= 1000; budget++) {
            if (run(service, budget).good) {
                return budget;
            }
        }
        return NONE;
    }

    int worst(int service) {
        needService(service);
        int bound = state.services.get(service).own();
        for (Call c : callsOf(service)) {
            bound += c.tries * Math.min(c.limit, worst(c.callee));
        }
        return Math.min(100000, bound);
    }

    int unsound() {
        int count = 0;
        for (Call c : state.calls) {
            count += c.limit < worst(c.callee) ? 1 : 0;
        }
        return count;
    }

    int tighten() {
        save(state.copy());
        Set<Call> changed = new HashSet<>();
        for (int s : wholeOrder()) {
            for (Call c : state.calls) {
                int limit = Math.min(500, worst(s));
                if (c.callee == s && c.limit != limit) {
                    c.limit = limit;
                    changed.add(c);
                }
            }
        }
        return changed.size();
    }

    // ---- spreading and repair

    private int ups() {
        int count = 0;
        for (Service s : state.services) {
            count += s.up ? 1 : 0;
        }
        return count;
    }

    private static void goDown(Service s) {
        s.up = false;
        s.rest = null;
        s.strain = 0;
    }

    int fail(int service) {
        needService(service);
        needState(state.services.get(service).up);
        save(state.copy());
        goDown(state.services.get(service));
        return ups();
    }

    int repair(int service) {
        needService(service);
        Service s = state.services.get(service);
        needState(!s.up && s.rest == null);
        save(state.copy());
        state.services.get(service).rest = s.values[3];
        return s.values[3];
    }

    int steps(int n) {
        need(n >= 1 && n <= 50);
        save(state.copy());
        for (int k = 0; k < n; k++) {
            step();
        }
        return ups();
    }

    private boolean starved(int service, int downBefore) {
        for (List<Call> group : groupsOf(service)) {
            boolean all = group.get(0).kind == 0;
            for (Call c : group) {
                all &= (downBefore & 1 << c.callee) != 0;
            }
            if (all) {
                return true;
            }
        }
        return false;
    }

    private Set<Integer> step() {
        int before = down();
        Set<Integer> fallen = new HashSet<>();
        Set<Service> underRepair = new HashSet<>();
        for (Service s : state.services) {
            if (s.rest != null) {
                underRepair.add(s);
            }
        }
        for (Service s : state.services) {
            if (s.up) {
                s.strain = starved(s.number, before) ? s.strain + 1 : Math.max(0, s.strain - 1);
            }
        }
        for (Service s : state.services) {
            if (s.up && s.strain >= s.values[2]) {
                goDown(s);
                fallen.add(s.number);
            }
        }
        for (Service s : underRepair) {
            s.rest = Math.max(0, s.rest - 1);
            if (s.rest == 0 && !starved(s.number, before)) {
                s.up = true;
                s.strain = 0;
                s.rest = null;
            }
        }
        return fallen;
    }

    int down() {
        int set = 0;
        for (Service s : state.services) {
            set += s.up ? 0 : 1 << s.number;
        }
        return set;
    }

    int spread(int service) {
        needService(service);
        needState(state.services.get(service).up);
        State before = state.copy();
        goDown(state.services.get(service));
        for (int k = 0; k < 40; k++) {
            step();
        }
        int set = down();
        state = before;
        return set;
    }

    int calm(int service) {
        needService(service);
        needState(state.services.get(service).up);
        State before = state.copy();
        goDown(state.services.get(service));
        int first = NONE;
        for (int k = 1; k <= 40; k++) {
            Set<Integer> fallen = step();
            fallen.remove(service);
            if (first == NONE && !fallen.isEmpty()) {
                first = k;
            }
        }
        state = before;
        return first;
    }

    int recoveryTime(int crews) {
        need(crews >= 1 && crews <= 4);
        int last = 0;
        for (int s = 0; s < services(); s++) {
            if (!state.services.get(s).up) {
                last = Math.max(last, recoveryStart(crews, s) + state.services.get(s).values[3]);
            }
        }
        return last;
    }

    int recoveryStart(int crews, int service) {
        need(crews >= 1 && crews <= 4);
        needService(service);
        if (state.services.get(service).up) {
            return NONE;
        }
        Integer[] start = new Integer[12];
        for (int t = 0; ; t++) {
            int busy = 0;
            for (int s = 0; s < services(); s++) {
                busy += start[s] != null && start[s] + state.services.get(s).values[3] > t ? 1 : 0;
            }
            while (busy < crews) {
                int best = NONE;
                for (int s = 0; s < services(); s++) {
                    if (state.services.get(s).up || start[s] != null || !free(s, start, t)) {
                        continue;
                    }
                    if (best == NONE || state.services.get(s).values[4] > state.services.get(best).values[4]) {
                        best = s;
                    }
                }
                if (best == NONE) {
                    break;
                }
                start[best] = t;
                busy++;
            }
            if (start[service] != null) {
                return start[service];
            }
        }
    }

    private boolean free(int service, Integer[] start, int t) {
        for (int s = 0; s < services(); s++) {
            if (!state.services.get(s).up && depends(service, s)
                    && (start[s] == null || start[s] + state.services.get(s).values[3] > t)) {
                return false;
            }
        }
        return true;
    }

    private int bestCost;
    private List<Integer> bestOrder;

    private void findBest() {
        bestCost = Integer.MAX_VALUE;
        bestOrder = new ArrayList<>();
        List<Integer> left = new ArrayList<>();
        for (Service s : state.services) {
            if (!s.up) {
                left.add(s.number);
            }
        }
        tryOrders(new ArrayList<>(), left, 0, 0);
    }

    /** All orders, those with low services first; only a smaller sum takes the place of an earlier one. */
    private void tryOrders(List<Integer> order, List<Integer> left, int moment, int cost) {
        int atLeast = cost;
        for (int s : left) {
            atLeast += state.services.get(s).values[4] * (moment + state.services.get(s).values[3]);
        }
        if (atLeast >= bestCost) {
            return;
        }
        if (left.isEmpty()) {
            bestCost = cost;
            bestOrder = new ArrayList<>(order);
            return;
        }
        for (int s : left) {
            boolean first = true;
            for (int t : left) {
                first &= !depends(s, t);
            }
            if (!first) {
                continue;
            }
            List<Integer> rest = new ArrayList<>(left);
            rest.remove(Integer.valueOf(s));
            order.add(s);
            int end = moment + state.services.get(s).values[3];
            tryOrders(order, rest, end, cost + state.services.get(s).values[4] * end);
            order.remove(order.size() - 1);
        }
    }

    int bestCost() {
        findBest();
        return bestCost;
    }

    int bestOrder(int place) {
        findBest();
        return place < 0 || place >= bestOrder.size() ? NONE : bestOrder.get(place);
    }

    // ---- without time

    /** Goes on as long as there is one more service that fails. */
    private boolean failing(int service, int set) {
        int all = set;
        int before;
        do {
            before = all;
            for (int s = 0; s < services(); s++) {
                all |= starved(s, all) ? 1 << s : 0;
            }
        } while (all != before);
        return (all & 1 << service) != 0;
    }

    private boolean[] failing(int service) {
        boolean[] bySet = new boolean[1 << services()];
        for (int set = 0; set < bySet.length; set++) {
            bySet[set] = failing(service, set);
        }
        return bySet;
    }

    boolean failsBy(int service, int set) {
        needService(service);
        for (int bit = services(); bit < 32; bit++) {
            need((set & 1 << bit) == 0);
        }
        return failing(service, set);
    }

    private List<Integer> allCuts(int service, int size) {
        List<Integer> list = new ArrayList<>();
        for (int set = 0; set < 1 << services(); set++) {
            boolean is = Integer.bitCount(set) == size && failing(service, set);
            for (int x = 0; is && x < services(); x++) {
                is = (set & 1 << x) == 0 || !failing(service, set - (1 << x));
            }
            if (is) {
                list.add(set);
            }
        }
        return list;
    }

    int cuts(int service, int size) {
        needService(service);
        need(size >= 1 && size <= 12);
        return allCuts(service, size).size();
    }

    int cut(int service, int size, int k) {
        needService(service);
        need(size >= 1 && size <= 12);
        List<Integer> list = allCuts(service, size);
        return k < 0 || k >= list.size() ? NONE : list.get(k);
    }

    private double chance(boolean[] failing) {
        double a = 0.0;
        for (int set = 0; set < failing.length; set++) {
            if (failing[set]) {
                continue;
            }
            double p = 1.0;
            for (int x = 0; x < services(); x++) {
                int reliability = state.services.get(x).values[5];
                double q = (set & 1 << x) == 0 ? reliability / 1000.0 : (1000 - reliability) / 1000.0;
                p = p * q;
            }
            a = a + p;
        }
        return a;
    }

    int availability(int service) {
        needService(service);
        return Float.floatToIntBits((float) chance(failing(service)));
    }

    int weakest(int service) {
        needService(service);
        int best = NONE;
        double greatest = 0;
        boolean[] failing = failing(service);
        for (Service s : state.services) {
            int before = s.values[5];
            s.values[5] = 1000;
            double chance = chance(failing);
            s.values[5] = before;
            if (best == NONE || chance > greatest) {
                best = s.number;
                greatest = chance;
            }
        }
        return best;
    }

    // ---- texts, state

    int append(int value) {
        need(value >= 0 && value <= 127);
        needState(text.length() < 120);
        text = text + (char) value;
        return text.length();
    }

    int clearText() {
        int before = text.length();
        text = "";
        return before;
    }

    private static final String NUMBER = "[0-9]{1,3}";
    private static final Pattern COMMAND = Pattern.compile("([adrs])(" + NUMBER + ");"
            + "|(p)(" + NUMBER + "(?:," + NUMBER + "){2});|(c)(" + NUMBER + "(?:," + NUMBER + "){4});",
            Pattern.DOTALL);
    private static final Pattern ALL = Pattern.compile("(?:" + COMMAND.pattern() + ")*", Pattern.DOTALL);
    private static final String[] ENDS = {"", ";", "0;", ",0;", "0,0;", ",0,0;", "0,0,0;", ",0,0,0;", "0,0,0,0;",
        ",0,0,0,0;", "0,0,0,0,0;"};

    /** Whether a text could be the beginning of one without errors. */
    private static boolean canGoOn(String beginning) {
        for (String end : ENDS) {
            if (ALL.matcher(beginning + end).matches()) {
                return true;
            }
        }
        return false;
    }

    private int syntaxError() {
        for (int k = 0; k < text.length(); k++) {
            if (!canGoOn(text.substring(0, k + 1))) {
                return k;
            }
        }
        return ALL.matcher(text).matches() ? NONE : text.length();
    }

    int execute() {
        int error = syntaxError();
        if (error != NONE) {
            return -10 - error;
        }
        State before = state.copy();
        Deque<State> savedBefore = new ArrayDeque<>(saved);
        Matcher matcher = COMMAND.matcher(text);
        int count = 0;
        boolean refused = false;
        while (!refused && matcher.find()) {
            String command = matcher.group();
            String[] parts = command.substring(1, command.length() - 1).split(",");
            int[] n = new int[5];
            for (int k = 0; k < parts.length; k++) {
                n[k] = Integer.parseInt(parts[k]);
            }
            try {
                perform(command.charAt(0), n);
                count++;
            } catch (IndexOutOfBoundsException | IllegalArgumentException | IllegalStateException e) {
                refused = true;
            }
        }
        saved.clear();
        saved.addAll(savedBefore);
        if (refused) {
            state = before;
            return -1000 - count;
        }
        save(before);
        return count;
    }

    private void perform(char letter, int[] n) {
        switch (letter) {
            case 'a':
                addService(n[0]);
                break;
            case 'c':
                addCall(n[0], n[1], n[2], n[3], n[4]);
                break;
            case 'd':
                fail(n[0]);
                break;
            case 'r':
                repair(n[0]);
                break;
            case 's':
                steps(n[0]);
                break;
            default:
                set(n[0], n[1], n[2]);
                break;
        }
    }

    int undo() {
        needState(!saved.isEmpty());
        state = saved.removeLast();
        return saved.size();
    }

    /** Takes the best order's sum from outside where finding it by all orders would take too long. */
    long digest(int bestCost) {
        List<Integer> values = new ArrayList<>();
        values.add(services());
        for (int s = 0; s < services(); s++) {
            for (int what = 0; what <= 10; what++) {
                values.add(service(s, what));
            }
            values.add(worst(s));
        }
        values.add(calls());
        for (int c = 0; c < calls(); c++) {
            for (int what = 0; what <= 5; what++) {
                values.add(call(c, what));
            }
        }
        values.add(unsound());
        values.add(down());
        values.add(recoveryTime(2));
        values.add(bestCost);
        values.add(text.length());
        values.add(saved.size());
        long h = 1851;
        for (int v : values) {
            h = 31 * h + v;
        }
        return h;
    }
}
