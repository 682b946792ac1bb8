import java.math.BigInteger;
import java.util.ArrayList;
import java.util.HashMap;
import java.util.HashSet;
import java.util.List;
import java.util.Map;
import java.util.Set;
import java.util.TreeMap;

/** The document's words once more, by the slowest and plainest means: all counted anew, tick by tick. */
final class PlainPress {
    private static final int NONE = -1;
    private static final int END = 10;

    record Ask(int page, int pause) {
    }

    static final class Done {
        int page;
        int wait;
        int due = NONE;
        int begun = NONE;
        int end = NONE;
        int server = NONE;
    }

    /** Shares by the document's rule, in whole numbers without a bound. */
    static final class Deal {
        final Map<Integer, Integer> came = new HashMap<>();
        int times = 0;

        int next(TreeMap<Integer, Integer> counts) {
            times++;
            BigInteger all = BigInteger.ZERO;
            for (int count : counts.values()) {
                all = all.add(BigInteger.valueOf(count));
            }
            Integer best = null;
            BigInteger bestUp = null;
            for (int choice : counts.keySet()) {
                BigInteger count = BigInteger.valueOf(counts.get(choice));
                BigInteger c = BigInteger.valueOf(came.getOrDefault(choice, 0));
                BigInteger cut = c.multiply(all).divide(count);
                if (cut.compareTo(BigInteger.valueOf(times)) >= 0) {
                    continue;
                }
                BigInteger[] both = c.add(BigInteger.ONE).multiply(all).divideAndRemainder(count);
                BigInteger up = both[1].signum() == 0 ? both[0] : both[0].add(BigInteger.ONE);
                if (best == null || up.compareTo(bestUp) < 0) {
                    best = choice;
                    bestUp = up;
                }
            }
            came.merge(best, 1, Integer::sum);
            return best;
        }
    }

    private final List<List<Ask>> log = new ArrayList<>();
    private final Map<List<Integer>, Integer> rares = new HashMap<>();
    private final int[] costs = {1, 1, 1, 1, 1, 1, 1, 1, 1, 1};
    private List<List<Done>> done = null;
    private Map<List<Integer>, Integer> walkedSteps = new HashMap<>();

    int visit() {
        if (log.size() == 60) {
            return NONE;
        }
        log.add(new ArrayList<>());
        return log.size() - 1;
    }

    int ask(int page, int wait) {
        if (log.isEmpty() || page < 0 || page > 9 || wait < 0 || wait > 60) {
            return NONE;
        }
        List<Ask> last = log.get(log.size() - 1);
        if (last.size() == 20) {
            return NONE;
        }
        last.add(new Ask(page, wait));
        return last.size();
    }

    void clear() {
        log.clear();
    }

    private Map<List<Integer>, Integer> stepsOfLog() {
        Map<List<Integer>, Integer> steps = new HashMap<>();
        for (List<Ask> visit : log) {
            int place = END;
            for (Ask ask : visit) {
                steps.merge(List.of(place, ask.page()), 1, Integer::sum);
                place = ask.page();
            }
            if (!visit.isEmpty()) {
                steps.merge(List.of(place, END), 1, Integer::sum);
            }
        }
        return steps;
    }

    int steps(int from, int to) {
        Integer times = stepsOfLog().get(List.of(from, to));
        return times == null ? 0 : Math.max(times, rares.getOrDefault(List.of(from, to), 0));
    }

    private TreeMap<Integer, Integer> waitsOfStep(int from, int to) {
        TreeMap<Integer, Integer> waits = new TreeMap<>();
        for (List<Ask> visit : log) {
            int place = END;
            for (Ask ask : visit) {
                if (place == from && ask.page() == to) {
                    waits.merge(ask.pause(), 1, Integer::sum);
                }
                place = ask.page();
            }
        }
        return waits;
    }

    int waits(int from, int to, int wait) {
        return waitsOfStep(from, to).getOrDefault(wait, 0);
    }

    boolean rare(int from, int to, int times) {
        if (from < 0 || from > 10 || to < 0 || to > 10 || times < 0 || times > 100) {
            return false;
        }
        rares.put(List.of(from, to), times);
        return true;
    }

    boolean cost(int page, int ticks) {
        if (page < 0 || page > 9 || ticks < 1 || ticks > 50) {
            return false;
        }
        costs[page] = ticks;
        return true;
    }

    private Map<List<Integer>, TreeMap<Integer, Integer>> nexts(int k) {
        Map<List<Integer>, TreeMap<Integer, Integer>> nexts = new HashMap<>();
        for (List<Ask> visit : log) {
            List<Integer> pages = new ArrayList<>();
            for (Ask ask : visit) {
                pages.add(ask.page());
            }
            pages.add(END);
            for (int i = 0; i + k < pages.size(); i++) {
                nexts.computeIfAbsent(List.copyOf(pages.subList(i, i + k)), key -> new TreeMap<>())
                    .merge(pages.get(i + k), 1, Integer::sum);
            }
        }
        return nexts;
    }

    int contexts(int k) {
        return k < 1 || k > 4 ? NONE : nexts(k).size();
    }

    int states(int k) {
        if (k < 1 || k > 4) {
            return NONE;
        }
        Set<Map<Integer, Integer>> unlike = new HashSet<>();
        for (TreeMap<Integer, Integer> next : nexts(k).values()) {
            BigInteger common = BigInteger.ZERO;
            for (int times : next.values()) {
                common = common.gcd(BigInteger.valueOf(times));
            }
            Map<Integer, Integer> least = new TreeMap<>();
            for (Map.Entry<Integer, Integer> entry : next.entrySet()) {
                least.put(entry.getKey(), entry.getValue() / common.intValue());
            }
            unlike.add(least);
        }
        return unlike.size();
    }

    int press(int visits, int gap, int servers) {
        if (visits < 1 || visits > 60 || gap < 0 || gap > 100 || servers < 1 || servers > 8) {
            return NONE;
        }
        if (countsFrom(END).isEmpty()) {
            return NONE;
        }
        dealWalks(visits);
        doAll(gap, servers);
        return allFrom(0).size();
    }

    private TreeMap<Integer, Integer> countsFrom(int from) {
        TreeMap<Integer, Integer> counts = new TreeMap<>();
        for (int to = 0; to <= END; to++) {
            int count = steps(from, to);
            if (count > 0) {
                counts.put(to, count);
            }
        }
        return counts;
    }

    private void dealWalks(int visits) {
        done = new ArrayList<>();
        walkedSteps = new HashMap<>();
        Map<Integer, TreeMap<Integer, Integer>> counts = new HashMap<>();
        Map<Integer, Deal> placeDeals = new HashMap<>();
        Map<List<Integer>, TreeMap<Integer, Integer>> waits = new HashMap<>();
        Map<List<Integer>, Deal> waitDeals = new HashMap<>();
        for (int v = 0; v < visits; v++) {
            List<Done> walk = new ArrayList<>();
            done.add(walk);
            int place = END;
            while (walk.size() < 20) {
                int next = placeDeals.computeIfAbsent(place, key -> new Deal())
                    .next(counts.computeIfAbsent(place, this::countsFrom));
                List<Integer> step = List.of(place, next);
                walkedSteps.merge(step, 1, Integer::sum);
                if (next == END) {
                    break;
                }
                Done ask = new Done();
                ask.page = next;
                ask.wait = waitDeals.computeIfAbsent(step, key -> new Deal())
                    .next(waits.computeIfAbsent(step, key -> waitsOfStep(key.get(0), key.get(1))));
                walk.add(ask);
                place = next;
            }
        }
    }

    private void doAll(int gap, int servers) {
        int[] free = new int[servers];
        int[] at = new int[done.size()];
        int left = 0;
        for (int v = 0; v < done.size(); v++) {
            Done first = done.get(v).get(0);
            first.due = v * gap + first.wait;
            left += done.get(v).size();
        }
        for (int tick = 0; left > 0; tick++) {
            boolean more = true;
            while (more) {
                more = doOneAt(tick, free, at);
                left -= more ? 1 : 0;
            }
        }
    }

    private boolean doOneAt(int tick, int[] free, int[] at) {
        int visit = NONE;
        for (int v = 0; v < at.length; v++) {
            if (at[v] < done.get(v).size() && done.get(v).get(at[v]).due <= tick
                && (visit == NONE || done.get(v).get(at[v]).due < done.get(visit).get(at[visit]).due)) {
                visit = v;
            }
        }
        int server = 0;
        for (int s = 0; s < free.length; s++) {
            if (free[s] < free[server]) {
                server = s;
            }
        }
        if (visit == NONE || free[server] > tick) {
            return false;
        }
        Done ask = done.get(visit).get(at[visit]);
        ask.begun = tick;
        ask.end = tick + costs[ask.page];
        ask.server = server;
        free[server] = ask.end;
        at[visit]++;
        if (at[visit] < done.get(visit).size()) {
            Done next = done.get(visit).get(at[visit]);
            next.due = ask.end + next.wait;
        }
        return true;
    }

    private boolean has(int visit) {
        return done != null && visit >= 0 && visit < done.size();
    }

    private List<Done> allFrom(int first) {
        List<Done> all = new ArrayList<>();
        for (int v = first; done != null && v < done.size(); v++) {
            all.addAll(done.get(v));
        }
        return all;
    }

    int walked(int visit) {
        return has(visit) ? done.get(visit).size() : NONE;
    }

    int told(int visit, int i, int what) {
        if (!has(visit) || i < 0 || i >= done.get(visit).size() || what < 0 || what > 5) {
            return NONE;
        }
        Done ask = done.get(visit).get(i);
        return new int[] {ask.page, ask.wait, ask.due, ask.begun, ask.end, ask.server}[what];
    }

    int dealt(int from, int to) {
        return walkedSteps.getOrDefault(List.of(from, to), 0);
    }

    int part(int thousandths, int first) {
        if (!has(first) || thousandths < 1 || thousandths > 1000) {
            return NONE;
        }
        List<Done> all = allFrom(first);
        for (int ticks = 0; ; ticks++) {
            if ((all.size() - late(ticks, first)) * 1000 >= thousandths * all.size()) {
                return ticks;
            }
        }
    }

    int late(int ticks, int first) {
        if (!has(first) || ticks < 0 || ticks > 1_000_000) {
            return NONE;
        }
        int number = 0;
        for (Done ask : allFrom(first)) {
            number += ask.end - ask.due > ticks ? 1 : 0;
        }
        return number;
    }

    int behind() {
        if (done == null) {
            return NONE;
        }
        int last = 0;
        for (Done ask : allFrom(0)) {
            last = Math.max(last, ask.begun);
        }
        int tick = last;
        while (tick > 0 && waiting(tick - 1) > 0) {
            tick--;
        }
        return tick < last ? tick : NONE;
    }

    int waiting(int tick) {
        if (done == null || tick < 0 || tick > 1_000_000) {
            return NONE;
        }
        int number = 0;
        for (Done ask : allFrom(0)) {
            boolean isDue = ask.due <= tick;
            boolean isBegun = ask.begun <= tick;
            number += isDue && !isBegun ? 1 : 0;
        }
        return number;
    }

    int learn() {
        if (done == null) {
            return NONE;
        }
        log.clear();
        for (List<Done> walk : done) {
            List<Ask> visit = new ArrayList<>();
            for (Done ask : walk) {
                visit.add(new Ask(ask.page, ask.wait));
            }
            log.add(visit);
        }
        return count(1);
    }

    int count(int what) {
        int logged = 0;
        for (List<Ask> visit : log) {
            logged += visit.size();
        }
        int lastEnd = 0;
        int worked = 0;
        for (Done ask : allFrom(0)) {
            lastEnd = Math.max(lastEnd, ask.end);
            worked += ask.end - ask.begun;
        }
        int[] all = {log.size(), logged, done == null ? 0 : done.size(), allFrom(0).size(),
            lastEnd, worked, stepsOfLog().size()};
        return what < 0 || what >= all.length ? NONE : all[what];
    }
}
