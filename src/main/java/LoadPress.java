import java.util.Arrays;

/** Learns a machine of pages from logs of visits, and presses a stepped system with walks of it. */
public final class LoadPress {
    /** None; refused. */
    public static final int NONE = -1;
    /** START, and END. */
    public static final int END = 10;

    private static final int PAGES = 10;
    private static final int PLACES = PAGES + 1;
    private static final int MOST_VISITS = 60;
    private static final int MOST_ASKS = 20;
    private static final int ALL_ASKS = MOST_VISITS * MOST_ASKS;
    private static final int MOST_WAIT = 60;
    private static final int MOST_RARE = 100;
    private static final int MOST_COST = 50;
    private static final int LONGEST_CONTEXT = 4;
    private static final int MOST_GAP = 100;
    private static final int MOST_SERVERS = 8;
    private static final int MOST_TICKS = 1_000_000;
    private static final int THOUSAND = 1000;
    // twice this is above every tick that a PRESS can reach: 1,200 COSTS, 20 WAITS and 59 GAPS
    private static final int HALF_OF_ALL_TICKS = 1 << 19;

    private final Visits log;
    private final Machine machine;
    private final Contexts rows;
    private final int[] costs;
    private final Walker walker;
    private final Press latest;

    public LoadPress() {
        log = new Visits();
        machine = new Machine();
        rows = new Contexts();
        costs = new int[PAGES];
        Arrays.fill(costs, 1);
        walker = new Walker();
        latest = new Press();
    }

    public int visit() {
        return log.open();
    }

    public int ask(int page, int wait) {
        if (!isPage(page) || !isWait(wait)) {
            return NONE;
        }
        return note(page, wait);
    }

    public void clear() {
        log.empty();
        machine.forget();
    }

    public int steps(int from, int to) {
        return machine.countOf(from, to);
    }

    public int waits(int from, int to, int wait) {
        return machine.timesOfWait(from, to, wait);
    }

    public boolean rare(int from, int to, int times) {
        return machine.tellRare(from, to, times);
    }

    public boolean cost(int page, int ticks) {
        if (!isPage(page) || !isWithin(ticks, 1, MOST_COST)) {
            return false;
        }
        costs[page] = ticks;
        return true;
    }

    public int contexts(int k) {
        if (!isWithin(k, 1, LONGEST_CONTEXT)) {
            return NONE;
        }
        rows.gather(log, k);
        return rows.number();
    }

    public int states(int k) {
        if (!isWithin(k, 1, LONGEST_CONTEXT)) {
            return NONE;
        }
        rows.gather(log, k);
        return rows.numberOfUnlike();
    }

    public int press(int visits, int gap, int servers) {
        boolean inBounds = isWithin(visits, 1, MOST_VISITS)
            && isWithin(gap, 0, MOST_GAP)
            && isWithin(servers, 1, MOST_SERVERS);
        // wherever the LOG has an ASK, the first one of its VISIT is a STEP from START
        if (!inBounds || log.asks() == 0) {
            return NONE;
        }
        walker.dealWalks(machine, latest.walks, visits);
        latest.run(gap, servers, costs);
        return latest.walks.asks();
    }

    public int walked(int visit) {
        return latest.walks.lengthOf(visit);
    }

    public int told(int visit, int i, int what) {
        return latest.tell(latest.walks.slotOf(visit, i), what);
    }

    public int dealt(int from, int to) {
        return walker.timesOf(from, to);
    }

    public int part(int thousandths, int first) {
        if (!isWithin(thousandths, 1, THOUSAND) || !latest.walks.has(first)) {
            return NONE;
        }
        return latest.leastTicks(thousandths, first);
    }

    public int late(int ticks, int first) {
        if (!isWithin(ticks, 0, MOST_TICKS) || !latest.walks.has(first)) {
            return NONE;
        }
        return latest.longerThan(ticks, first);
    }

    public int behind() {
        return latest.fallsBehind();
    }

    public int waiting(int tick) {
        if (!isWithin(tick, 0, MOST_TICKS) || latest.walks.size == 0) {
            return NONE;
        }
        return latest.notBegunAt(tick);
    }

    public int learn() {
        if (latest.walks.size == 0) {
            return NONE;
        }
        clear();
        for (int visit = 0; visit < latest.walks.size; visit++) {
            log.open();
            noteAsks(latest.walks, visit);
        }
        return log.asks();
    }

    public int count(int what) {
        switch (what) {
            case 0: return log.size;
            case 1: return log.asks();
            case 2: return latest.walks.size;
            case 3: return latest.walks.asks();
            case 4: return latest.lastEnd;
            case 5: return latest.worked;
            case 6: return machine.unlikeSteps();
            default: return NONE;
        }
    }

    private int note(int page, int wait) {
        int from = log.lastPlace();
        int number = log.add(page, wait);
        if (number != NONE) {
            machine.lengthen(from, page, wait);
        }
        return number;
    }

    private void noteAsks(Visits walks, int visit) {
        for (int slot = walks.startOf(visit); slot < walks.endOf(visit); slot++) {
            note(walks.pageAt(slot), walks.waitAt(slot));
        }
    }

    private static boolean isWithin(int number, int least, int most) {
        return number >= least && number <= most;
    }

    private static boolean isPage(int page) {
        return isWithin(page, 0, PAGES - 1);
    }

    private static boolean isPlace(int place) {
        return isWithin(place, 0, PLACES - 1);
    }

    private static boolean isWait(int wait) {
        return isWithin(wait, 0, MOST_WAIT);
    }

    /** A number for a STEP, or for what comes behind a CONTEXT, whose last part is the place. */
    private static int stepOf(int from, int to) {
        return from * PLACES + to;
    }

    /** VISITS with their ASKS: the LOG is one of these, what a PRESS walked is another. */
    private static final class Visits {
        private final int[] pages = new int[ALL_ASKS];
        private final int[] waits = new int[ALL_ASKS];
        // one more than there are VISITS, so that the last one's end stands here too
        private final int[] starts = new int[MOST_VISITS + 1];
        private int size;

        void empty() {
            size = 0;
        }

        int open() {
            if (size >= MOST_VISITS) {
                return NONE;
            }
            starts[size + 1] = starts[size];
            size++;
            return size - 1;
        }

        /** Adds to the latest VISIT: how many ASKS it has then, or NONE if there is no place. */
        int add(int page, int wait) {
            int length = lengthOf(size - 1);
            if (length == NONE || length >= MOST_ASKS) {
                return NONE;
            }
            int slot = starts[size];
            pages[slot] = page;
            waits[slot] = wait;
            starts[size] = slot + 1;
            return length + 1;
        }

        int asks() {
            return starts[size];
        }

        boolean has(int visit) {
            return isWithin(visit, 0, size - 1);
        }

        int startOf(int visit) {
            return has(visit) ? starts[visit] : asks();
        }

        int endOf(int visit) {
            return has(visit) ? starts[visit + 1] : asks();
        }

        int lengthOf(int visit) {
            return has(visit) ? starts[visit + 1] - starts[visit] : NONE;
        }

        int slotOf(int visit, int i) {
            return isWithin(i, 0, lengthOf(visit) - 1) ? starts[visit] + i : NONE;
        }

        int pageAt(int slot) {
            return isWithin(slot, 0, asks() - 1) ? pages[slot] : NONE;
        }

        int waitAt(int slot) {
            return isWithin(slot, 0, asks() - 1) ? waits[slot] : NONE;
        }

        /** Where the latest VISIT stands: at its last PAGE, or still at START. */
        int lastPlace() {
            return lengthOf(size - 1) > 0 ? pages[asks() - 1] : END;
        }
    }

    /** DEALING among choices with COUNTS, that goes on until it is begun anew. */
    private static final class Dealing {
        private final int[] counts;
        private final int[] came;

        Dealing(int choices) {
            int size = Math.max(choices, 0);
            counts = new int[size];
            came = new int[size];
        }

        void beginAnew() {
            Arrays.fill(came, 0);
        }

        /** What comes this time; NONE if no COUNT is above 0. */
        int deal() {
            int all = sumOf(counts);
            int time = sumOf(came) + 1;
            int chosen = NONE;
            int soonest = 0;
            for (int i = 0; i < counts.length; i++) {
                if (counts[i] <= 0 || came[i] * all / counts[i] >= time) {
                    continue;
                }
                int latestTime = ((came[i] + 1) * all + counts[i] - 1) / counts[i];
                if (chosen == NONE || latestTime < soonest) {
                    chosen = i;
                    soonest = latestTime;
                }
            }
            if (chosen != NONE) {
                came[chosen]++;
            }
            return chosen;
        }

        private static int sumOf(int[] row) {
            int sum = 0;
            for (int number : row) {
                sum += number;
            }
            return sum;
        }
    }

    /** What the LOG teaches: how often each STEP is in it and each WAIT comes with it. */
    private static final class Machine {
        private final int[] times = new int[PLACES * PLACES];
        private final int[] rares = new int[PLACES * PLACES];
        // most STEPS are in no LOG: a row for each of them would be the most of the object
        private final Dealing[] waits = new Dealing[PLACES * PLACES];

        void forget() {
            Arrays.fill(times, 0);
            for (Dealing dealing : waits) {
                if (dealing != null) {
                    Arrays.fill(dealing.counts, 0);
                }
            }
        }

        /** A VISIT that stood at a place goes on to a PAGE, and ends there for now. */
        void lengthen(int from, int page, int wait) {
            if (!isPlace(from) || !isPage(page) || !isWait(wait)) {
                return;
            }
            // START is no last PAGE, so there is no STEP to END to take back
            if (from != END) {
                times[stepOf(from, END)]--;
            }
            int step = stepOf(from, page);
            times[step]++;
            times[stepOf(page, END)]++;
            if (waits[step] == null) {
                waits[step] = new Dealing(MOST_WAIT + 1);
            }
            waits[step].counts[wait]++;
        }

        boolean tellRare(int from, int to, int number) {
            if (!isPlace(from) || !isPlace(to) || !isWithin(number, 0, MOST_RARE)) {
                return false;
            }
            rares[stepOf(from, to)] = number;
            return true;
        }

        int countOf(int from, int to) {
            if (!isPlace(from) || !isPlace(to)) {
                return 0;
            }
            int step = stepOf(from, to);
            return times[step] == 0 ? 0 : Math.max(times[step], rares[step]);
        }

        int timesOfWait(int from, int page, int wait) {
            if (!isPlace(from) || !isPage(page) || !isWait(wait)) {
                return 0;
            }
            Dealing dealing = waits[stepOf(from, page)];
            return dealing == null ? 0 : dealing.counts[wait];
        }

        void beginWaitsAnew() {
            for (Dealing dealing : waits) {
                if (dealing != null) {
                    dealing.beginAnew();
                }
            }
        }

        int dealWait(int from, int page) {
            if (!isPlace(from) || !isPage(page)) {
                return NONE;
            }
            Dealing dealing = waits[stepOf(from, page)];
            return dealing == null ? NONE : dealing.deal();
        }

        int unlikeSteps() {
            int number = 0;
            for (int time : times) {
                if (time > 0) {
                    number++;
                }
            }
            return number;
        }
    }

    /** Deals WALKS, and keeps how often each STEP came in the latest ones. */
    private static final class Walker {
        private final Dealing[] places = new Dealing[PLACES];

        Walker() {
            for (int from = 0; from < PLACES; from++) {
                places[from] = new Dealing(PLACES);
            }
        }

        void dealWalks(Machine machine, Visits walks, int number) {
            machine.beginWaitsAnew();
            for (int from = 0; from < PLACES; from++) {
                places[from].beginAnew();
                for (int to = 0; to < PLACES; to++) {
                    places[from].counts[to] = machine.countOf(from, to);
                }
            }
            walks.empty();
            for (int visit = 0; visit < number; visit++) {
                walks.open();
                dealWalk(machine, walks);
            }
        }

        private void dealWalk(Machine machine, Visits walks) {
            int place = END;
            for (int i = 0; i < MOST_ASKS; i++) {
                int next = places[place].deal();
                if (!isPage(next)) {
                    return;
                }
                walks.add(next, machine.dealWait(place, next));
                place = next;
            }
        }

        int timesOf(int from, int to) {
            return isPlace(from) && isPlace(to) ? places[from].came[to] : 0;
        }
    }

    /** The latest PRESS: its WALKS, and when and on which SERVER each ASK was done. */
    private static final class Press {
        private final Visits walks = new Visits();
        private final int[] due = new int[ALL_ASKS];
        private final int[] begun = new int[ALL_ASKS];
        private final int[] ended = new int[ALL_ASKS];
        private final int[] server = new int[ALL_ASKS];
        private final int[] nextSlot = new int[MOST_VISITS];
        private final int[] nextDue = new int[MOST_VISITS];
        private final int[] freeAt = new int[MOST_SERVERS];
        private int servers;
        private int lastBegun;
        private int behindSince;
        private int lastEnd;
        private int worked;

        void run(int gap, int serversUsed, int[] costs) {
            begin(gap, serversUsed);
            for (int n = 0; n < walks.asks(); n++) {
                int visit = visitDueFirst();
                if (visit == NONE) {
                    return;
                }
                int page = walks.pageAt(nextSlot[visit]);
                serve(visit, isWithin(page, 0, costs.length - 1) ? costs[page] : 1);
            }
        }

        private void begin(int gap, int serversUsed) {
            servers = Math.min(serversUsed, MOST_SERVERS);
            Arrays.fill(freeAt, 0);
            lastBegun = 0;
            behindSince = 0;
            lastEnd = 0;
            worked = 0;
            for (int visit = 0; visit < walks.size; visit++) {
                nextSlot[visit] = walks.startOf(visit);
                nextDue[visit] = visit * gap + walks.waitAt(nextSlot[visit]);
            }
        }

        private int visitDueFirst() {
            int first = NONE;
            for (int visit = 0; visit < walks.size; visit++) {
                boolean goesOn = nextSlot[visit] < walks.endOf(visit);
                if (goesOn && (first == NONE || nextDue[visit] < nextDue[first])) {
                    first = visit;
                }
            }
            return first;
        }

        private int serverFreeFirst() {
            int first = 0;
            for (int s = 1; s < servers; s++) {
                if (freeAt[s] < freeAt[first]) {
                    first = s;
                }
            }
            return first;
        }

        private void serve(int visit, int cost) {
            int slot = nextSlot[visit];
            int chosen = serverFreeFirst();
            due[slot] = nextDue[visit];
            begun[slot] = Math.max(due[slot], freeAt[chosen]);
            ended[slot] = begun[slot] + cost;
            server[slot] = chosen;
            freeAt[chosen] = ended[slot];
            lastEnd = Math.max(lastEnd, ended[slot]);
            worked += cost;
            noteBehind(due[slot], begun[slot]);
            nextSlot[visit] = slot + 1;
            nextDue[visit] = ended[slot] + walks.waitAt(slot + 1);
        }

        /**
         * ASKS come here in order of DUE, and so of beginning too. One that was DUE only behind
         * the beginning ahead of it leaves a tick at which none waited; all others keep the row
         * of ticks with some ASK waiting whole, up to their own beginning.
         */
        private void noteBehind(int dueNow, int begunNow) {
            behindSince = dueNow > lastBegun ? dueNow : Math.min(behindSince, dueNow);
            lastBegun = begunNow;
        }

        int fallsBehind() {
            return behindSince < lastBegun ? behindSince : NONE;
        }

        int tell(int slot, int what) {
            if (!isWithin(slot, 0, walks.asks() - 1)) {
                return NONE;
            }
            switch (what) {
                case 0: return walks.pageAt(slot);
                case 1: return walks.waitAt(slot);
                case 2: return due[slot];
                case 3: return begun[slot];
                case 4: return ended[slot];
                case 5: return server[slot];
                default: return NONE;
            }
        }

        int longerThan(int ticks, int first) {
            int number = 0;
            for (int slot = walks.startOf(first); slot < walks.asks(); slot++) {
                if (ended[slot] - due[slot] > ticks) {
                    number++;
                }
            }
            return number;
        }

        /** One tick more than the most ticks within which too few ASKS are done. */
        int leastTicks(int thousandths, int first) {
            int all = walks.asks() - walks.startOf(first);
            if (all <= 0) {
                return NONE;
            }
            int tooFew = 0;
            for (int more = HALF_OF_ALL_TICKS; more > 0; more /= 2) {
                int done = all - longerThan(tooFew + more, first);
                if (done * THOUSAND < thousandths * all) {
                    tooFew += more;
                }
            }
            return tooFew + 1;
        }

        int notBegunAt(int tick) {
            int number = 0;
            for (int slot = 0; slot < walks.asks(); slot++) {
                if (due[slot] <= tick && begun[slot] > tick) {
                    number++;
                }
            }
            return number;
        }
    }

    /** The CONTEXTS of some length in a LOG, each with its NEXT. */
    private static final class Contexts {
        // a number for each time that a CONTEXT comes, of it and of what is behind it; in order,
        // so that those of one CONTEXT stand beside one another
        private final int[] comings = new int[ALL_ASKS];
        // where those CONTEXTS begin of which none is ALIKE to one ahead
        private final int[] unlike = new int[ALL_ASKS];
        private final int[] nextOfOne = new int[PLACES];
        private final int[] nextOfOther = new int[PLACES];
        private int size;

        void gather(Visits log, int k) {
            size = 0;
            for (int visit = 0; visit < log.size; visit++) {
                gatherFrom(log, visit, k);
            }
            sort();
        }

        private void gatherFrom(Visits log, int visit, int k) {
            int end = log.endOf(visit);
            for (int slot = log.startOf(visit) + k; slot <= end && size < ALL_ASKS; slot++) {
                int context = 0;
                for (int i = slot - k; i < slot; i++) {
                    context = context * PAGES + log.pageAt(i);
                }
                comings[size] = stepOf(context, slot < end ? log.pageAt(slot) : END);
                size++;
            }
        }

        private void sort() {
            for (int gap = size / 2; gap > 0; gap /= 2) {
                for (int i = gap; i < size; i++) {
                    int coming = comings[i];
                    int place = i;
                    for (; place >= gap && comings[place - gap] > coming; place -= gap) {
                        comings[place] = comings[place - gap];
                    }
                    comings[place] = coming;
                }
            }
        }

        private boolean isFirstOfContext(int i) {
            return i == 0 || comings[i] / PLACES != comings[i - 1] / PLACES;
        }

        int number() {
            int number = 0;
            for (int i = 0; i < size; i++) {
                if (isFirstOfContext(i)) {
                    number++;
                }
            }
            return number;
        }

        int numberOfUnlike() {
            int number = 0;
            for (int i = 0; i < size; i++) {
                if (isFirstOfContext(i) && !isAlikeToOneOf(number, i)) {
                    unlike[number] = i;
                    number++;
                }
            }
            return number;
        }

        private boolean isAlikeToOneOf(int number, int start) {
            int total = countNext(start, nextOfOne);
            for (int i = 0; i < number; i++) {
                int otherTotal = countNext(unlike[i], nextOfOther);
                if (areInProportion(total, otherTotal)) {
                    return true;
                }
            }
            return false;
        }

        /** Fills the NEXT of the CONTEXT that begins there: how often it comes in all. */
        private int countNext(int start, int[] next) {
            Arrays.fill(next, 0);
            int total = 0;
            for (int i = start; i < size && (i == start || !isFirstOfContext(i)); i++) {
                next[comings[i] % PLACES]++;
                total++;
            }
            return total;
        }

        private boolean areInProportion(int total, int otherTotal) {
            for (int place = 0; place < PLACES; place++) {
                if (nextOfOne[place] * otherTotal != nextOfOther[place] * total) {
                    return false;
                }
            }
            return true;
        }
    }
}
