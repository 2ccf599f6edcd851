/**
 * A planner and simulator for calls between services. The document ../shared/DOC.md numbers its promises.
 *
 * <p>Nothing here relies on an exception of the Java machine: whether a call is possible is told by a number
 * (FINE or the reason against it) before anything changes, and refuse() alone throws.
 */
public final class ServiceBudgets {
    public static final int NONE = -1;

    private static final int MAX_SERVICES = 12;
    private static final int MAX_CALLS = 24;
    private static final int MAX_LIMIT = 500;
    private static final int MAX_BUDGET = 1000;
    private static final int MAX_STEPS = 50;
    private static final int MAX_CREWS = 4;
    private static final int STEPS_IN_THOUGHT = 40;

    private static final int FINE = 0;
    private static final int NO_SUCH = 1;
    private static final int OUT_OF_RANGE = 2;
    private static final int WRONG_STATE = 3;

    private final State now = new State();
    private final State aside = new State();
    private final History history = new History();
    private final Graph graph = new Graph();
    private final Request latest = new Request();
    private final BudgetSearch search = new BudgetSearch();
    private final Recovery recovery = new Recovery();
    private final FailureSets sets = new FailureSets();
    private final Text text = new Text();

    public ServiceBudgets() {
    }

    // ---- services and calls

    public int addService(int work) throws IllegalArgumentException, IllegalStateException {
        refuse(now.whyNotNewService(work));
        history.save(now);
        return now.newService(work);
    }

    public int addCall(int caller, int callee, int limit, int tries, int kind)
            throws IndexOutOfBoundsException, IllegalArgumentException, IllegalStateException {
        refuse(now.whyNotNewCall(caller, callee, limit, tries, kind));
        history.save(now);
        return now.newCall(caller, callee, limit, tries, kind);
    }

    public int removeCall(int call) throws IndexOutOfBoundsException, IllegalStateException {
        refuse(now.whyNotDropCall(call));
        history.save(now);
        return now.dropCall(call);
    }

    public int set(int what, int service, int value) throws IndexOutOfBoundsException, IllegalArgumentException {
        refuse(now.whyNotChange(what, service, value));
        history.save(now);
        return now.change(what, service, value);
    }

    public int setLimit(int call, int limit) throws IndexOutOfBoundsException, IllegalArgumentException {
        refuse(now.whyNotChangeLimit(call, limit));
        history.save(now);
        return now.changeLimit(call, limit);
    }

    public int services() {
        return now.services;
    }

    public int calls() {
        return now.calls;
    }

    public int service(int service, int what) throws IndexOutOfBoundsException, IllegalArgumentException {
        refuse(now.whyNoService(service));
        refuse(whyNotWithin(what, 0, State.LAST_ABOUT_SERVICE));
        return now.tellOfService(service, what);
    }

    public int call(int call, int what) throws IndexOutOfBoundsException, IllegalArgumentException {
        refuse(now.whyNoCall(call));
        refuse(whyNotWithin(what, 0, State.LAST_ABOUT_CALL));
        return now.aboutCall[what][call];
    }

    public boolean depends(int one, int other) throws IndexOutOfBoundsException {
        refuse(now.whyNoService(one));
        refuse(now.whyNoService(other));
        return contains(now.needsOf(one), other);
    }

    public int order(int place) {
        graph.sort(now);
        return graph.sortedAt(place);
    }

    public int level(int service) throws IndexOutOfBoundsException {
        refuse(now.whyNoService(service));
        graph.measureChains(now);
        return graph.chains[service];
    }

    // ---- requests

    public boolean request(int service, int budget) throws IndexOutOfBoundsException, IllegalArgumentException {
        refuse(now.whyNoService(service));
        refuse(whyNotWithin(budget, 0, MAX_BUDGET));
        return latest.begin(now, service, budget);
    }

    public int result(int what) throws IllegalArgumentException, IllegalStateException {
        refuse(whyNotWithin(what, 0, Request.LAST_RESULT));
        refuse(latest.whyNone());
        return latest.about(what);
    }

    public int failure(int k, int what) throws IllegalArgumentException {
        refuse(whyNotWithin(what, 0, Request.LAST_NOTE));
        return latest.aboutFailure(k, what);
    }

    public int attempt(int k, int what) throws IllegalArgumentException {
        refuse(whyNotWithin(what, 0, Request.LAST_NOTE));
        return latest.aboutTry(k, what);
    }

    public int leastBudget(int service) throws IndexOutOfBoundsException {
        refuse(now.whyNoService(service));
        return search.leastFor(now, service);
    }

    public int worst(int service) throws IndexOutOfBoundsException {
        refuse(now.whyNoService(service));
        graph.measureBounds(now);
        return graph.bounds[service];
    }

    public int unsound() {
        graph.measureBounds(now);
        return graph.countUnsound(now);
    }

    public int tighten() {
        history.save(now);
        return graph.tightenLimits(now);
    }

    // ---- spreading and repair

    public int fail(int service) throws IndexOutOfBoundsException, IllegalStateException {
        refuse(now.whyNotGoDown(service));
        history.save(now);
        now.goDown(service);
        return now.countUp();
    }

    public int repair(int service) throws IndexOutOfBoundsException, IllegalStateException {
        refuse(now.whyNotBeginRepair(service));
        history.save(now);
        return now.beginRepair(service);
    }

    public int steps(int n) throws IllegalArgumentException {
        refuse(whyNotWithin(n, 1, MAX_STEPS));
        history.save(now);
        now.makeSteps(n);
        return now.countUp();
    }

    public int down() {
        return now.downSet();
    }

    public int spread(int service) throws IndexOutOfBoundsException, IllegalStateException {
        refuse(now.whyNotGoDown(service));
        aside.copyFrom(now);
        aside.goDown(service);
        aside.makeSteps(STEPS_IN_THOUGHT);
        return aside.downSet();
    }

    public int calm(int service) throws IndexOutOfBoundsException, IllegalStateException {
        refuse(now.whyNotGoDown(service));
        aside.copyFrom(now);
        aside.goDown(service);
        // The given service is not under repair, so it does not go down a second time.
        for (int step = 1; step <= STEPS_IN_THOUGHT; step++) {
            if (aside.makeStep() != 0) {
                return step;
            }
        }
        return NONE;
    }

    public int recoveryTime(int crews) throws IllegalArgumentException {
        refuse(whyNotWithin(crews, 1, MAX_CREWS));
        return recovery.byCrews(now, crews);
    }

    public int recoveryStart(int crews, int service) throws IllegalArgumentException, IndexOutOfBoundsException {
        refuse(whyNotWithin(crews, 1, MAX_CREWS));
        refuse(now.whyNoService(service));
        if (now.isUp(service)) {
            return NONE;
        }
        recovery.byCrews(now, crews);
        return recovery.begins[service];
    }

    public int bestCost() {
        return recovery.leastCost(now);
    }

    public int bestOrder(int place) {
        return recovery.inBestOrder(now, place);
    }

    // ---- without time

    public boolean failsBy(int service, int set) throws IndexOutOfBoundsException, IllegalArgumentException {
        refuse(now.whyNoService(service));
        refuse(now.whyNoSet(set));
        graph.sort(now);
        return contains(graph.failingBy(now, set), service);
    }

    public int cuts(int service, int size) throws IndexOutOfBoundsException, IllegalArgumentException {
        refuse(now.whyNoService(service));
        refuse(whyNotWithin(size, 1, MAX_SERVICES));
        graph.sort(now);
        sets.fill(now, graph);
        return sets.countCuts(now, service, size);
    }

    public int cut(int service, int size, int k) throws IndexOutOfBoundsException, IllegalArgumentException {
        refuse(now.whyNoService(service));
        refuse(whyNotWithin(size, 1, MAX_SERVICES));
        graph.sort(now);
        sets.fill(now, graph);
        return sets.findCut(now, service, size, k);
    }

    public int availability(int service) throws IndexOutOfBoundsException {
        refuse(now.whyNoService(service));
        graph.sort(now);
        sets.fill(now, graph);
        return bitsOf((float) sets.chanceOf(now, service, NONE));
    }

    public int weakest(int service) throws IndexOutOfBoundsException {
        refuse(now.whyNoService(service));
        graph.sort(now);
        sets.fill(now, graph);
        return sets.mostWorthwhile(now, service);
    }

    // ---- texts, state

    public int append(int value) throws IllegalArgumentException, IllegalStateException {
        refuse(whyNotWithin(value, 0, Text.MAX_SIGN));
        refuse(text.whyFull());
        return text.add(value);
    }

    public int clearText() {
        return text.empty();
    }

    public int execute() {
        int commands = text.parse();
        if (commands < 0) {
            return commands;
        }
        aside.copyFrom(now);
        for (int k = 0; k < commands; k++) {
            if (text.whyNotCommand(now, k) != FINE) {
                now.copyFrom(aside);
                return -1000 - k;
            }
            text.carryOut(now, k);
        }
        history.save(aside);
        return commands;
    }

    public int undo() throws IllegalStateException {
        refuse(history.whyEmpty());
        return history.restore(now);
    }

    public long digest() {
        graph.measureBounds(now);
        long h = 31L * 1851L + now.services;
        for (int service = 0; service < now.services; service++) {
            for (int what = 0; what <= State.LAST_ABOUT_SERVICE; what++) {
                h = 31L * h + now.tellOfService(service, what);
            }
            h = 31L * h + graph.bounds[service];
        }
        h = 31L * h + now.calls;
        for (int call = 0; call < now.calls; call++) {
            for (int what = 0; what <= State.LAST_ABOUT_CALL; what++) {
                h = 31L * h + now.aboutCall[what][call];
            }
        }
        h = 31L * h + graph.countUnsound(now);
        h = 31L * h + now.downSet();
        h = 31L * h + recovery.byCrews(now, 2);
        h = 31L * h + recovery.leastCost(now);
        h = 31L * h + text.length;
        return 31L * h + history.count;
    }

    // ---- what the classes inside share

    private static void refuse(int why) {
        if (why == NO_SUCH) {
            throw new IndexOutOfBoundsException("there is no such service or call");
        }
        if (why == OUT_OF_RANGE) {
            throw new IllegalArgumentException("an argument is out of range");
        }
        if (why == WRONG_STATE) {
            throw new IllegalStateException("this is not possible now");
        }
    }

    private static int whyNotWithin(int value, int least, int most) {
        return value < least || value > most ? OUT_OF_RANGE : FINE;
    }

    private static boolean contains(int set, int service) {
        return (set >> service & 1) != 0;
    }

    /** What Float.floatToIntBits answers for 0 and up to below 2; LANGUAGE.md leaves that function out. */
    private static int bitsOf(float number) {
        double scaled = number;
        if (scaled <= 0.0) {
            return 0;
        }
        int exponent = 127;
        while (scaled < 1.0 && exponent > 1) {
            scaled = scaled * 2.0;
            exponent--;
        }
        if (scaled < 1.0) {
            return (int) (scaled * 8388608.0);
        }
        return (exponent << 23) + (int) ((scaled - 1.0) * 8388608.0);
    }

    /** The services and the calls with all that is said of them: what undo() brings back. */
    private static final class State {
        static final int WORK = 0;
        static final int PACE = 1;
        static final int TOLERANCE = 2;
        static final int REPAIR_TIME = 3;
        static final int IMPORTANCE = 4;
        static final int RELIABILITY = 5;
        static final int UP = 6;
        static final int STRAIN = 7;
        static final int REST = 8;
        static final int OWN_TIME = 9;
        static final int LAST_ABOUT_SERVICE = 10;

        static final int CALLER = 0;
        static final int CALLEE = 1;
        static final int LIMIT = 2;
        static final int TRIES = 3;
        static final int KIND = 4;
        static final int BELONGS_TO = 5;
        static final int LAST_ABOUT_CALL = 5;

        static final int NEEDED = 0;
        static final int REPLACEMENT = 2;
        static final int MAX_TRIES = 3;

        private static final int[] LEAST = {1, 50, 1, 1, 1, 0};
        private static final int[] MOST = {100, 400, 9, 20, 9, 1000};
        private static final int[] INITIAL = {1, 100, 2, 3, 1, 990};

        int services = 0;
        int calls = 0;
        /** Rows by the numbers of service(), 0 to 8; what is behind them is computed. */
        final int[][] aboutService = new int[REST + 1][MAX_SERVICES];
        /** Rows by the numbers of call(). */
        final int[][] aboutCall = new int[LAST_ABOUT_CALL + 1][MAX_CALLS];

        void copyFrom(State other) {
            services = other.services;
            calls = other.calls;
            for (int what = 0; what <= REST; what++) {
                System.arraycopy(other.aboutService[what], 0, aboutService[what], 0, MAX_SERVICES);
            }
            for (int what = 0; what <= LAST_ABOUT_CALL; what++) {
                System.arraycopy(other.aboutCall[what], 0, aboutCall[what], 0, MAX_CALLS);
            }
        }

        int whyNoService(int service) {
            return service < 0 || service >= services ? NO_SUCH : FINE;
        }

        int whyNoCall(int call) {
            return call < 0 || call >= calls ? NO_SUCH : FINE;
        }

        int whyNoSet(int set) {
            return set >>> services != 0 ? OUT_OF_RANGE : FINE;
        }

        int whyNotNewService(int work) {
            if (work < LEAST[WORK] || work > MOST[WORK]) {
                return OUT_OF_RANGE;
            }
            return services >= MAX_SERVICES ? WRONG_STATE : FINE;
        }

        int newService(int work) {
            int service = services;
            for (int what = WORK; what <= RELIABILITY; what++) {
                aboutService[what][service] = INITIAL[what];
            }
            aboutService[WORK][service] = work;
            aboutService[UP][service] = 1;
            aboutService[STRAIN][service] = 0;
            aboutService[REST][service] = NONE;
            services++;
            return service;
        }

        int whyNotNewCall(int caller, int callee, int limit, int tries, int kind) {
            if (whyNoService(caller) != FINE || whyNoService(callee) != FINE) {
                return NO_SUCH;
            }
            if (whyNotWithin(limit, 1, MAX_LIMIT) != FINE || whyNotWithin(tries, 1, MAX_TRIES) != FINE
                    || whyNotWithin(kind, NEEDED, REPLACEMENT) != FINE) {
                return OUT_OF_RANGE;
            }
            if (caller == callee || contains(needsOf(callee), caller)) {
                return WRONG_STATE;
            }
            if (kind == REPLACEMENT && lastHeadOf(caller) == NONE) {
                return WRONG_STATE;
            }
            return calls >= MAX_CALLS ? WRONG_STATE : FINE;
        }

        int newCall(int caller, int callee, int limit, int tries, int kind) {
            int call = calls;
            aboutCall[BELONGS_TO][call] = kind == REPLACEMENT ? lastHeadOf(caller) : NONE;
            aboutCall[CALLER][call] = caller;
            aboutCall[CALLEE][call] = callee;
            aboutCall[LIMIT][call] = limit;
            aboutCall[TRIES][call] = tries;
            aboutCall[KIND][call] = kind;
            calls++;
            return call;
        }

        int whyNotDropCall(int call) {
            if (whyNoCall(call) != FINE) {
                return NO_SUCH;
            }
            for (int other = 0; other < calls; other++) {
                if (aboutCall[BELONGS_TO][other] == call) {
                    return WRONG_STATE;
                }
            }
            return FINE;
        }

        int dropCall(int call) {
            calls--;
            for (int what = 0; what <= LAST_ABOUT_CALL; what++) {
                System.arraycopy(aboutCall[what], call + 1, aboutCall[what], call, calls - call);
            }
            for (int other = 0; other < calls; other++) {
                if (aboutCall[BELONGS_TO][other] > call) {
                    aboutCall[BELONGS_TO][other]--;
                }
            }
            return calls;
        }

        int whyNotChange(int what, int service, int value) {
            if (whyNoService(service) != FINE) {
                return NO_SUCH;
            }
            if (what < WORK || what > RELIABILITY) {
                return OUT_OF_RANGE;
            }
            return whyNotWithin(value, LEAST[what], MOST[what]);
        }

        int change(int what, int service, int value) {
            int before = aboutService[what][service];
            aboutService[what][service] = value;
            return before;
        }

        int whyNotChangeLimit(int call, int limit) {
            return whyNoCall(call) != FINE ? NO_SUCH : whyNotWithin(limit, 1, MAX_LIMIT);
        }

        int changeLimit(int call, int limit) {
            int before = aboutCall[LIMIT][call];
            aboutCall[LIMIT][call] = limit;
            return before;
        }

        int tellOfService(int service, int what) {
            if (what <= REST) {
                return aboutService[what][service];
            }
            return what == OWN_TIME ? ownTimeOf(service) : countCallsOf(service);
        }

        int ownTimeOf(int service) {
            return (aboutService[WORK][service] * aboutService[PACE][service] + 99) / 100;
        }

        private int countCallsOf(int service) {
            int count = 0;
            for (int call = 0; call < calls; call++) {
                if (aboutCall[CALLER][call] == service) {
                    count++;
                }
            }
            return count;
        }

        /** The last call of a service that is not a replacement; NONE if it has no calls. */
        private int lastHeadOf(int service) {
            for (int call = calls - 1; call >= 0; call--) {
                if (isHeadOf(call, service)) {
                    return call;
                }
            }
            return NONE;
        }

        /** Tells whether a call is the first one of a group of a service. */
        boolean isHeadOf(int call, int service) {
            return aboutCall[CALLER][call] == service && aboutCall[KIND][call] != REPLACEMENT;
        }

        boolean isInGroup(int call, int head) {
            return call == head || aboutCall[BELONGS_TO][call] == head;
        }

        boolean isNeeded(int head) {
            return aboutCall[KIND][head] == NEEDED;
        }

        /** The set of the services on which a service depends. */
        int needsOf(int service) {
            int callers = 1 << service;
            int needs = 0;
            for (int length = 0; length < services; length++) {
                int found = calleesOf(callers);
                if ((found & ~needs) == 0) {
                    return needs;
                }
                needs |= found;
                callers |= found;
            }
            return needs;
        }

        private int calleesOf(int callers) {
            int found = 0;
            for (int call = 0; call < calls; call++) {
                if (contains(callers, aboutCall[CALLER][call])) {
                    found |= 1 << aboutCall[CALLEE][call];
                }
            }
            return found;
        }

        /** Tells whether a service has a needed group all of whose callees are in a set. */
        boolean lacksNeeded(int service, int set) {
            for (int head = 0; head < calls; head++) {
                if (isHeadOf(head, service) && isNeeded(head) && isGroupWithin(head, set)) {
                    return true;
                }
            }
            return false;
        }

        private boolean isGroupWithin(int head, int set) {
            for (int call = head; call < calls; call++) {
                if (isInGroup(call, head) && !contains(set, aboutCall[CALLEE][call])) {
                    return false;
                }
            }
            return true;
        }

        boolean isUp(int service) {
            return aboutService[UP][service] == 1;
        }

        int downSet() {
            int set = 0;
            for (int service = 0; service < services; service++) {
                if (!isUp(service)) {
                    set |= 1 << service;
                }
            }
            return set;
        }

        int countUp() {
            return services - Integer.bitCount(downSet());
        }

        int whyNotGoDown(int service) {
            if (whyNoService(service) != FINE) {
                return NO_SUCH;
            }
            return isUp(service) ? FINE : WRONG_STATE;
        }

        void goDown(int service) {
            aboutService[UP][service] = 0;
            aboutService[STRAIN][service] = 0;
            aboutService[REST][service] = NONE;
        }

        int whyNotBeginRepair(int service) {
            if (whyNoService(service) != FINE) {
                return NO_SUCH;
            }
            return isUp(service) || aboutService[REST][service] != NONE ? WRONG_STATE : FINE;
        }

        int beginRepair(int service) {
            aboutService[REST][service] = aboutService[REPAIR_TIME][service];
            return aboutService[REST][service];
        }

        void makeSteps(int n) {
            for (int step = 0; step < n; step++) {
                makeStep();
            }
        }

        /** Makes a step and answers the set of the services that go down in it. */
        int makeStep() {
            int before = downSet();
            int fallen = 0;
            for (int service = 0; service < services; service++) {
                boolean lacking = lacksNeeded(service, before);
                if (contains(before, service)) {
                    mend(service, lacking);
                    continue;
                }
                changeStrain(service, lacking);
                if (aboutService[STRAIN][service] >= aboutService[TOLERANCE][service]) {
                    goDown(service);
                    fallen |= 1 << service;
                }
            }
            return fallen;
        }

        private void mend(int service, boolean lacking) {
            int rest = aboutService[REST][service];
            if (rest == NONE) {
                return;
            }
            if (rest > 0) {
                rest--;
            }
            aboutService[REST][service] = rest;
            if (rest == 0 && !lacking) {
                aboutService[UP][service] = 1;
                aboutService[STRAIN][service] = 0;
                aboutService[REST][service] = NONE;
            }
        }

        private void changeStrain(int service, boolean lacking) {
            if (lacking) {
                aboutService[STRAIN][service]++;
            } else if (aboutService[STRAIN][service] > 0) {
                aboutService[STRAIN][service]--;
            }
        }
    }

    /** The states that undo() can bring back, the oldest one first. */
    private static final class History {
        private static final int MOST_KEPT = 4;

        private final State[] kept = new State[MOST_KEPT];
        int count = 0;

        History() {
            for (int k = 0; k < MOST_KEPT; k++) {
                kept[k] = new State();
            }
        }

        void save(State state) {
            if (count == MOST_KEPT) {
                dropOldest();
            }
            kept[count].copyFrom(state);
            count++;
        }

        private void dropOldest() {
            State oldest = kept[0];
            for (int k = 1; k < MOST_KEPT; k++) {
                kept[k - 1] = kept[k];
            }
            kept[MOST_KEPT - 1] = oldest;
            count--;
        }

        int whyEmpty() {
            return count == 0 ? WRONG_STATE : FINE;
        }

        int restore(State state) {
            count--;
            state.copyFrom(kept[count]);
            return count;
        }
    }

    /** What follows from the order of the calls: it goes through the services, each one behind those it depends on. */
    private static final class Graph {
        private static final int MOST_BOUND = 100000;

        private final int[] direct = new int[MAX_SERVICES];
        private final int[] sorted = new int[MAX_SERVICES];
        private int placed = 0;
        final int[] chains = new int[MAX_SERVICES];
        final int[] bounds = new int[MAX_SERVICES];

        void sort(State state) {
            fillDirect(state);
            placed = 0;
            int before = 0;
            for (int place = 0; place < state.services; place++) {
                int next = lowestNext(state, before);
                if (next == NONE) {
                    return;
                }
                sorted[place] = next;
                before |= 1 << next;
                placed++;
            }
        }

        private void fillDirect(State state) {
            for (int service = 0; service < state.services; service++) {
                direct[service] = 0;
            }
            for (int call = 0; call < state.calls; call++) {
                direct[state.aboutCall[State.CALLER][call]] |= 1 << state.aboutCall[State.CALLEE][call];
            }
        }

        private int lowestNext(State state, int before) {
            for (int service = 0; service < state.services; service++) {
                if (!contains(before, service) && (direct[service] & ~before) == 0) {
                    return service;
                }
            }
            return NONE;
        }

        int sortedAt(int place) {
            return place < 0 || place >= placed ? NONE : sorted[place];
        }

        int countSorted() {
            return placed;
        }

        void measureChains(State state) {
            sort(state);
            for (int place = 0; place < placed; place++) {
                chains[sorted[place]] = chainOf(state, sorted[place]);
            }
        }

        private int chainOf(State state, int service) {
            int longest = 0;
            for (int call = 0; call < state.calls; call++) {
                if (state.aboutCall[State.CALLER][call] == service) {
                    longest = Math.max(longest, 1 + chains[state.aboutCall[State.CALLEE][call]]);
                }
            }
            return longest;
        }

        void measureBounds(State state) {
            sort(state);
            for (int place = 0; place < placed; place++) {
                bounds[sorted[place]] = boundOf(state, sorted[place]);
            }
        }

        private int boundOf(State state, int service) {
            int bound = state.ownTimeOf(service);
            for (int call = 0; call < state.calls; call++) {
                if (state.aboutCall[State.CALLER][call] == service) {
                    int limit = state.aboutCall[State.LIMIT][call];
                    int each = Math.min(limit, bounds[state.aboutCall[State.CALLEE][call]]);
                    bound += state.aboutCall[State.TRIES][call] * each;
                }
            }
            return Math.min(bound, MOST_BOUND);
        }

        /** Relies on measureBounds() before. */
        int countUnsound(State state) {
            int count = 0;
            for (int call = 0; call < state.calls; call++) {
                if (state.aboutCall[State.LIMIT][call] < bounds[state.aboutCall[State.CALLEE][call]]) {
                    count++;
                }
            }
            return count;
        }

        int tightenLimits(State state) {
            sort(state);
            int changed = 0;
            for (int place = 0; place < placed; place++) {
                int service = sorted[place];
                bounds[service] = boundOf(state, service);
                changed += limitCallsTo(state, service, Math.min(bounds[service], MAX_LIMIT));
            }
            return changed;
        }

        private int limitCallsTo(State state, int service, int limit) {
            int changed = 0;
            for (int call = 0; call < state.calls; call++) {
                if (state.aboutCall[State.CALLEE][call] == service && state.changeLimit(call, limit) != limit) {
                    changed++;
                }
            }
            return changed;
        }

        /** The services that fail by a set; relies on sort() before. */
        int failingBy(State state, int set) {
            int failing = set;
            for (int place = 0; place < placed; place++) {
                if (state.lacksNeeded(sorted[place], failing)) {
                    failing |= 1 << sorted[place];
                }
            }
            return failing;
        }
    }

    /**
     * How a service serves a request. An outcome is one number: the time taken, doubled, and 1 more if it is good.
     * How a callee's outcome comes about, and whether anything is noted, is left to the classes below.
     */
    private abstract static class Serving {
        static final int IS_DOWN = 1;
        static final int TOO_SLOW = 2;
        static final int NO_TIME_LEFT = 3;
        static final int IN_VAIN = 4;

        abstract int ask(State state, int call, int moment, int budget, int depth);

        abstract void noteFailure(int service, int kind, int moment, int budget);

        abstract void noteMissing();

        static int good(int time) {
            return 2 * time + 1;
        }

        static int bad(int time) {
            return 2 * time;
        }

        static boolean isGood(int outcome) {
            return (outcome & 1) != 0;
        }

        static int timeOf(int outcome) {
            return outcome >> 1;
        }

        int serve(State state, int service, int moment, int budget, int depth) {
            if (!state.isUp(service)) {
                noteFailure(service, IS_DOWN, moment, budget);
                return bad(0);
            }
            int used = state.ownTimeOf(service);
            if (used > budget) {
                noteFailure(service, TOO_SLOW, moment + budget, budget);
                return bad(budget);
            }
            for (int head = 0; head < state.calls; head++) {
                if (!state.isHeadOf(head, service)) {
                    continue;
                }
                int outcome = goThroughGroup(state, head, moment, budget, used, depth);
                used = timeOf(outcome);
                if (!isGood(outcome) && state.isNeeded(head)) {
                    noteFailure(service, IN_VAIN, moment + used, budget);
                    return bad(used);
                }
                if (!isGood(outcome)) {
                    noteMissing();
                }
            }
            return good(used);
        }

        private int goThroughGroup(State state, int head, int moment, int budget, int before, int depth) {
            int used = before;
            for (int call = head; call < state.calls; call++) {
                if (state.isInGroup(call, head)) {
                    int outcome = makeCall(state, call, moment, budget, used, depth);
                    if (isGood(outcome)) {
                        return outcome;
                    }
                    used = timeOf(outcome);
                }
            }
            return bad(used);
        }

        private int makeCall(State state, int call, int moment, int budget, int before, int depth) {
            int used = before;
            int tries = state.aboutCall[State.TRIES][call];
            for (int k = 0; k < tries; k++) {
                if (used >= budget) {
                    noteFailure(state.aboutCall[State.CALLER][call], NO_TIME_LEFT, moment + used, budget);
                    return bad(used);
                }
                int share = Math.min(state.aboutCall[State.LIMIT][call], budget - used);
                int outcome = ask(state, call, moment + used, share, depth);
                used += timeOf(outcome);
                if (isGood(outcome)) {
                    return good(used);
                }
            }
            return bad(used);
        }
    }

    /** The latest request, with the notes that it left. */
    private static final class Request extends Serving {
        static final int LAST_RESULT = 5;
        static final int LAST_NOTE = 3;

        private static final int MOST_FAILURES = 60;
        private static final int MOST_TRIES = 200;

        private boolean happened = false;
        private int outcome = 0;
        private int missing = 0;
        private int served = 0;
        private int firstFailing = NONE;
        private int firstAtFault = NONE;
        private int failureCount = 0;
        private int tryCount = 0;
        /** Rows by the numbers of failure() and of attempt(). */
        private final int[][] failures = new int[LAST_NOTE + 1][MOST_FAILURES];
        private final int[][] attempts = new int[LAST_NOTE + 1][MOST_TRIES];

        boolean begin(State state, int service, int budget) {
            happened = true;
            missing = 0;
            served = 1;
            firstFailing = NONE;
            firstAtFault = NONE;
            failureCount = 0;
            tryCount = 0;
            outcome = serve(state, service, 0, budget, 1);
            return isGood(outcome);
        }

        int ask(State state, int call, int moment, int budget, int depth) {
            // No chain of calls is longer, as no service depends on itself.
            if (depth >= MAX_SERVICES) {
                return bad(0);
            }
            int number = noteTry(call, moment, budget);
            served++;
            int answer = serve(state, state.aboutCall[State.CALLEE][call], moment, budget, depth + 1);
            if (number != NONE && isGood(answer)) {
                attempts[3][number] = 1;
            }
            return answer;
        }

        private int noteTry(int call, int moment, int budget) {
            if (tryCount >= MOST_TRIES) {
                return NONE;
            }
            int number = tryCount;
            attempts[0][number] = call;
            attempts[1][number] = moment;
            attempts[2][number] = budget;
            attempts[3][number] = 0;
            tryCount++;
            return number;
        }

        void noteFailure(int service, int kind, int moment, int budget) {
            if (firstFailing == NONE) {
                firstFailing = service;
            }
            if (firstAtFault == NONE && (kind == IS_DOWN || kind == TOO_SLOW)) {
                firstAtFault = service;
            }
            if (failureCount < MOST_FAILURES) {
                failures[0][failureCount] = service;
                failures[1][failureCount] = kind;
                failures[2][failureCount] = moment;
                failures[3][failureCount] = budget;
                failureCount++;
            }
        }

        void noteMissing() {
            missing++;
        }

        int whyNone() {
            return happened ? FINE : WRONG_STATE;
        }

        int about(int what) {
            switch (what) {
                case 0:
                    return timeOf(outcome);
                case 1:
                    return missing;
                case 2:
                    return failureCount;
                case 3:
                    return tryCount;
                case 4:
                    return blamed();
                default:
                    return served;
            }
        }

        private int blamed() {
            if (isGood(outcome)) {
                return NONE;
            }
            return firstAtFault != NONE ? firstAtFault : firstFailing;
        }

        int aboutFailure(int k, int what) {
            return k < 0 || k >= failureCount ? NONE : failures[what][k];
        }

        int aboutTry(int k, int what) {
            return k < 0 || k >= tryCount ? NONE : attempts[what][k];
        }
    }

    /**
     * Looks for the least budget from 0 upwards. What a callee does depends on its budget alone, and that is smaller
     * than its caller's (as an own time is at least 1): so the outcomes for all smaller budgets are there already.
     */
    private static final class BudgetSearch extends Serving {
        /** By budget and service; made when it is needed first, as many objects never ask for it. */
        private int[] outcomes = new int[0];

        int leastFor(State state, int service) {
            if (!state.isUp(service)) {
                return NONE;
            }
            if (outcomes.length == 0) {
                outcomes = new int[(MAX_LIMIT + 1) * MAX_SERVICES];
            }
            int below = state.needsOf(service);
            for (int budget = 0; budget <= MAX_BUDGET; budget++) {
                if (isGood(serve(state, service, 0, budget, 1))) {
                    return budget;
                }
                if (budget <= MAX_LIMIT) {
                    keepOutcomes(state, below, budget);
                }
            }
            return NONE;
        }

        private void keepOutcomes(State state, int below, int budget) {
            for (int service = 0; service < state.services; service++) {
                if (contains(below, service)) {
                    outcomes[budget * MAX_SERVICES + service] = serve(state, service, 0, budget, 1);
                }
            }
        }

        int ask(State state, int call, int moment, int budget, int depth) {
            return outcomes[budget * MAX_SERVICES + state.aboutCall[State.CALLEE][call]];
        }

        void noteFailure(int service, int kind, int moment, int budget) {
        }

        void noteMissing() {
        }
    }

    /** Repairs in thought of the services that are down. */
    private static final class Recovery {
        private static final int ALL_SETS = 1 << MAX_SERVICES;

        /** Which services that are down have to be finished before one can be begun. */
        private final int[] before = new int[MAX_SERVICES];
        final int[] begins = new int[MAX_SERVICES];
        private final int[] ends = new int[MAX_SERVICES];
        /** By the set of those that are finished, the least cost of the rest; made when it is needed first. */
        private int[] costs = new int[0];

        private int fillBefore(State state) {
            int down = state.downSet();
            for (int service = 0; service < state.services; service++) {
                if (contains(down, service)) {
                    before[service] = state.needsOf(service) & down;
                }
            }
            return down;
        }

        /** The moment at which all are finished; begins[] has the beginnings of those that are down. */
        int byCrews(State state, int crews) {
            int waiting = fillBefore(state);
            int running = 0;
            int finished = 0;
            int moment = 0;
            // Each round but the first one finishes a service.
            for (int round = 0; round <= state.services; round++) {
                int over = overAt(state, running, moment);
                running &= ~over;
                finished |= over;
                for (int free = crews - Integer.bitCount(running); free > 0; free--) {
                    int next = mostImportant(state, waiting, finished);
                    if (next == NONE) {
                        break;
                    }
                    begins[next] = moment;
                    ends[next] = moment + state.aboutService[State.REPAIR_TIME][next];
                    waiting &= ~(1 << next);
                    running |= 1 << next;
                }
                if (running == 0) {
                    return moment;
                }
                moment = nextEnd(state, running);
            }
            return moment;
        }

        private int overAt(State state, int running, int moment) {
            int over = 0;
            for (int service = 0; service < state.services; service++) {
                if (contains(running, service) && ends[service] <= moment) {
                    over |= 1 << service;
                }
            }
            return over;
        }

        private int nextEnd(State state, int running) {
            int end = NONE;
            for (int service = 0; service < state.services; service++) {
                if (contains(running, service) && (end == NONE || ends[service] < end)) {
                    end = ends[service];
                }
            }
            return end;
        }

        private int mostImportant(State state, int waiting, int finished) {
            int best = NONE;
            int importance = 0;
            for (int service = 0; service < state.services; service++) {
                if (contains(waiting, service) && (before[service] & ~finished) == 0
                        && state.aboutService[State.IMPORTANCE][service] > importance) {
                    best = service;
                    importance = state.aboutService[State.IMPORTANCE][service];
                }
            }
            return best;
        }

        int leastCost(State state) {
            int down = fillBefore(state);
            if (costs.length == 0) {
                costs = new int[ALL_SETS];
            }
            costs[down] = 0;
            int finished = down;
            while (finished > 0) {
                finished = (finished - 1) & down;
                settle(state, down, finished);
            }
            return costs[0];
        }

        /**
         * Notes the least cost of the rest behind those that are finished, and answers with which service it begins,
         * of several the lowest; relies on the costs behind one more that is finished.
         */
        private int settle(State state, int down, int finished) {
            int elapsed = timeFor(state, finished);
            int best = NONE;
            int least = 0;
            for (int service = 0; service < state.services; service++) {
                if (!contains(down & ~finished, service) || (before[service] & ~finished) != 0) {
                    continue;
                }
                int end = elapsed + state.aboutService[State.REPAIR_TIME][service];
                int cost = state.aboutService[State.IMPORTANCE][service] * end + costs[finished | 1 << service];
                if (best == NONE || cost < least) {
                    best = service;
                    least = cost;
                }
            }
            costs[finished] = least;
            return best;
        }

        private static int timeFor(State state, int set) {
            int time = 0;
            for (int service = 0; service < state.services; service++) {
                if (contains(set, service)) {
                    time += state.aboutService[State.REPAIR_TIME][service];
                }
            }
            return time;
        }

        int inBestOrder(State state, int place) {
            int down = state.downSet();
            if (place < 0 || place >= Integer.bitCount(down)) {
                return NONE;
            }
            leastCost(state);
            int finished = 0;
            int next = settle(state, down, finished);
            for (int k = 0; k < place && next != NONE; k++) {
                finished |= 1 << next;
                next = settle(state, down, finished);
            }
            return next;
        }
    }

    /**
     * Which sets of services make which service fail. A set is a number whose bits are its services; for each
     * service there is a bit for each set, 64 of them in a word, so that all sets are worked out side by side.
     */
    private static final class FailureSets {
        private static final int ALL_SETS = 1 << MAX_SERVICES;
        private static final int SERVICES_IN_A_WORD = 6;
        private static final int WORDS = ALL_SETS >> SERVICES_IN_A_WORD;
        /** For each of the services 0 to 5 the bits of those sets of them to which it belongs. */
        private static final long[] MEMBERS = {0xAAAAAAAAAAAAAAAAL, 0xCCCCCCCCCCCCCCCCL, 0xF0F0F0F0F0F0F0F0L,
            0xFF00FF00FF00FF00L, 0xFFFF0000FFFF0000L, 0xFFFFFFFF00000000L};

        private final long[][] failing = new long[MAX_SERVICES][WORDS];
        private final long[] group = new long[WORDS];
        /** By set, how likely just its services fail by themselves; made when it is needed first. */
        private double[] chances = new double[0];

        /** Relies on graph.sort() before. */
        void fill(State state, Graph graph) {
            int words = Math.max(1, 1 << state.services >> SERVICES_IN_A_WORD);
            for (int place = 0; place < graph.countSorted(); place++) {
                int service = graph.sortedAt(place);
                for (int word = 0; word < words; word++) {
                    failing[service][word] = members(service, word);
                }
                for (int head = 0; head < state.calls; head++) {
                    if (state.isHeadOf(head, service) && state.isNeeded(head)) {
                        addGroup(state, head, words);
                    }
                }
            }
        }

        private static long members(int service, int word) {
            if (service < SERVICES_IN_A_WORD) {
                return MEMBERS[service];
            }
            return contains(word, service - SERVICES_IN_A_WORD) ? -1L : 0L;
        }

        private void addGroup(State state, int head, int words) {
            for (int word = 0; word < words; word++) {
                group[word] = -1L;
            }
            for (int call = head; call < state.calls; call++) {
                if (state.isInGroup(call, head)) {
                    long[] callee = failing[state.aboutCall[State.CALLEE][call]];
                    for (int word = 0; word < words; word++) {
                        group[word] &= callee[word];
                    }
                }
            }
            long[] caller = failing[state.aboutCall[State.CALLER][head]];
            for (int word = 0; word < words; word++) {
                caller[word] |= group[word];
            }
        }

        private boolean isFailing(int service, int set) {
            return (failing[service][set >> SERVICES_IN_A_WORD] >>> (set & 63) & 1L) != 0L;
        }

        private boolean isCut(State state, int service, int set) {
            if (!isFailing(service, set)) {
                return false;
            }
            for (int member = 0; member < state.services; member++) {
                if (contains(set, member) && isFailing(service, set & ~(1 << member))) {
                    return false;
                }
            }
            return true;
        }

        int countCuts(State state, int service, int size) {
            int count = 0;
            for (int set = 0; set < 1 << state.services; set++) {
                if (Integer.bitCount(set) == size && isCut(state, service, set)) {
                    count++;
                }
            }
            return count;
        }

        int findCut(State state, int service, int size, int k) {
            int before = 0;
            for (int set = 0; set < 1 << state.services; set++) {
                if (Integer.bitCount(set) == size && isCut(state, service, set)) {
                    if (before == k) {
                        return set;
                    }
                    before++;
                }
            }
            return NONE;
        }

        /** The availability of a service, with the reliability of the perfect one (if any) taken as 1000. */
        double chanceOf(State state, int service, int perfect) {
            fillChances(state, perfect);
            double sum = 0.0;
            for (int set = 0; set < 1 << state.services; set++) {
                if (!isFailing(service, set)) {
                    sum = sum + chances[set];
                }
            }
            return sum;
        }

        /** Each product grows by one service after the other, in ascending order: the roundings are the document's. */
        private void fillChances(State state, int perfect) {
            if (chances.length == 0) {
                chances = new double[ALL_SETS];
            }
            chances[0] = 1.0;
            for (int service = 0; service < state.services; service++) {
                int reliability = service == perfect ? 1000 : state.aboutService[State.RELIABILITY][service];
                double up = reliability / 1000.0;
                double down = (1000 - reliability) / 1000.0;
                int without = 1 << service;
                for (int set = 0; set < without; set++) {
                    chances[without + set] = chances[set] * down;
                    chances[set] = chances[set] * up;
                }
            }
        }

        int mostWorthwhile(State state, int service) {
            int best = 0;
            double greatest = chanceOf(state, service, 0);
            for (int perfect = 1; perfect < state.services; perfect++) {
                double chance = chanceOf(state, service, perfect);
                if (chance > greatest) {
                    best = perfect;
                    greatest = chance;
                }
            }
            return best;
        }
    }

    /** The text, and the commands that it was parsed into last. */
    private static final class Text {
        static final int MAX_SIGN = 127;

        private static final int MAX_LENGTH = 120;
        private static final int MAX_DIGITS = 3;
        private static final int SHORTEST_COMMAND = 3;
        private static final int MAX_COMMANDS = MAX_LENGTH / SHORTEST_COMMAND;
        private static final int MAX_NUMBERS = 5;

        private final int[] signs = new int[MAX_LENGTH];
        int length = 0;
        private final int[] letters = new int[MAX_COMMANDS];
        private final int[][] numbers = new int[MAX_NUMBERS][MAX_COMMANDS];

        int whyFull() {
            return length >= MAX_LENGTH ? WRONG_STATE : FINE;
        }

        int add(int sign) {
            signs[length] = sign;
            length++;
            return length;
        }

        int empty() {
            int before = length;
            length = 0;
            return before;
        }

        /** The number of commands, or -10 minus the position of the syntax error. */
        int parse() {
            int count = 0;
            int at = 0;
            while (at < length && count < MAX_COMMANDS) {
                at = parseCommand(at, count);
                if (at < 0) {
                    return -10 - placeOf(at);
                }
                count++;
            }
            return count;
        }

        /** A position is carried as it is while all is well, and as a negative number once it is an error's. */
        private static int errorAt(int position) {
            return -1 - position;
        }

        private static int placeOf(int error) {
            return -1 - error;
        }

        private int parseCommand(int start, int command) {
            int needed = numbersOf(signs[start]);
            if (needed == 0) {
                return errorAt(start);
            }
            letters[command] = signs[start];
            int at = start + 1;
            for (int k = 0; k < needed; k++) {
                int end = endOfDigits(at);
                if (end == at || end >= length || signs[end] != (k + 1 < needed ? ',' : ';')) {
                    return errorAt(end);
                }
                numbers[k][command] = valueOf(at, end);
                at = end + 1;
            }
            return at;
        }

        private static int numbersOf(int letter) {
            switch (letter) {
                case 'a':
                case 'd':
                case 'r':
                case 's':
                    return 1;
                case 'p':
                    return 3;
                case 'c':
                    return 5;
                default:
                    return 0;
            }
        }

        private int endOfDigits(int start) {
            int end = start;
            while (end < length && end < start + MAX_DIGITS && signs[end] >= '0' && signs[end] <= '9') {
                end++;
            }
            return end;
        }

        private int valueOf(int start, int end) {
            int value = 0;
            for (int at = start; at < end; at++) {
                value = 10 * value + signs[at] - '0';
            }
            return value;
        }

        /** Why a command of the latest parse() cannot be carried out. */
        int whyNotCommand(State state, int command) {
            int first = numbers[0][command];
            int second = numbers[1][command];
            int third = numbers[2][command];
            switch (letters[command]) {
                case 'a':
                    return state.whyNotNewService(first);
                case 'c':
                    return state.whyNotNewCall(first, second, third, numbers[3][command], numbers[4][command]);
                case 'd':
                    return state.whyNotGoDown(first);
                case 'r':
                    return state.whyNotBeginRepair(first);
                case 's':
                    return whyNotWithin(first, 1, MAX_STEPS);
                default:
                    return state.whyNotChange(first, second, third);
            }
        }

        void carryOut(State state, int command) {
            int first = numbers[0][command];
            int second = numbers[1][command];
            int third = numbers[2][command];
            switch (letters[command]) {
                case 'a':
                    state.newService(first);
                    break;
                case 'c':
                    state.newCall(first, second, third, numbers[3][command], numbers[4][command]);
                    break;
                case 'd':
                    state.goDown(first);
                    break;
                case 'r':
                    state.beginRepair(first);
                    break;
                case 's':
                    state.makeSteps(first);
                    break;
                default:
                    state.change(first, second, third);
                    break;
            }
        }
    }
}
