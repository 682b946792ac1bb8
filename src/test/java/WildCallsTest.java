import java.util.Random;

/**
 * Runs of 512 calls, as many as an object answers for, whose numbers lie at all boundaries of the
 * document and far outside, each answered by the class and by the plain model.
 */
public final class WildCallsTest {
    private static final int RUNS = 400;
    private static final int CALLS = 512;
    private static final int[] BOUNDARIES = {0, 1, 4, 5, 6, 7, 8, 9, 10, 11, 19, 20, 21, 50, 51, 59, 60, 61, 100, 101,
        1000, 1001, 1_000_000, 1_000_001, -1, -2, 1 << 16, -(1 << 16), -1171354717, Integer.MAX_VALUE - 1,
        Integer.MAX_VALUE, Integer.MIN_VALUE, Integer.MIN_VALUE + 1};

    private final LoadPress x = new LoadPress();
    private final PlainPress model = new PlainPress();
    private final Random chance;
    private final int wildness;
    private final String run;

    private WildCallsTest(int seed) {
        chance = new Random(seed);
        wildness = 2 + chance.nextInt(30);
        run = "wild run " + seed + ": ";
    }

    public static void main(String[] args) {
        for (int seed = 0; seed < RUNS && !Check.hasWrong(); seed++) {
            WildCallsTest test = new WildCallsTest(seed);
            for (int call = 0; call < CALLS && !Check.hasWrong(); call++) {
                test.callOne();
            }
        }
        Check.end();
    }

    /** A number up to the most, or now and then any. */
    private int upTo(int most) {
        return chance.nextInt(wildness) == 0 ? BOUNDARIES[chance.nextInt(BOUNDARIES.length)] : chance.nextInt(most + 1);
    }

    private void due(String call, long got, long want) {
        Check.due(run + call, got, want);
    }

    private void callOne() {
        int kind = chance.nextInt(60);
        if (kind < 30) {
            changeLog(kind);
        } else if (kind < 38) {
            changeRest(kind);
        } else if (kind < 46) {
            askAboutLog(kind);
        } else {
            askAboutPress(kind);
        }
    }

    private void changeLog(int kind) {
        if (kind < 5) {
            due("visit()", x.visit(), model.visit());
        } else if (kind == 5 && chance.nextInt(6) == 0) {
            x.clear();
            model.clear();
        } else if (kind == 6 && chance.nextInt(2) == 0) {
            due("learn()", x.learn(), model.learn());
        } else {
            int page = upTo(9);
            int wait = upTo(60);
            due("ask(" + page + ", " + wait + ")", x.ask(page, wait), model.ask(page, wait));
        }
    }

    private void changeRest(int kind) {
        if (kind < 33) {
            int from = upTo(10);
            int to = upTo(10);
            int times = upTo(100);
            Check.due(run + "rare(" + from + ", " + to + ", " + times + ")",
                x.rare(from, to, times), model.rare(from, to, times));
        } else if (kind < 35) {
            int page = upTo(9);
            int ticks = upTo(50);
            Check.due(run + "cost(" + page + ", " + ticks + ")", x.cost(page, ticks), model.cost(page, ticks));
        } else {
            int visits = upTo(60);
            int gap = upTo(100);
            int servers = upTo(8);
            due("press(" + visits + ", " + gap + ", " + servers + ")",
                x.press(visits, gap, servers), model.press(visits, gap, servers));
        }
    }

    private void askAboutLog(int kind) {
        int from = upTo(10);
        int to = upTo(10);
        int number = upTo(60);
        int k = upTo(5);
        switch (kind) {
            case 38, 39, 40 -> due("steps(" + from + ", " + to + ")", x.steps(from, to), model.steps(from, to));
            case 41, 42 -> due("waits(" + from + ", " + to + ", " + number + ")",
                x.waits(from, to, number), model.waits(from, to, number));
            case 43 -> due("contexts(" + k + ")", x.contexts(k), model.contexts(k));
            case 44 -> due("states(" + k + ")", x.states(k), model.states(k));
            default -> due("count(" + k + ")", x.count(k), model.count(k));
        }
    }

    private void askAboutPress(int kind) {
        int visit = chance.nextInt(3) == 0 ? upTo(60) : upTo(3);
        int small = upTo(10);
        int what = upTo(6);
        int tick = upTo(1 + model.count(4));
        int thousandths = upTo(1001);
        switch (kind) {
            case 46 -> due("walked(" + visit + ")", x.walked(visit), model.walked(visit));
            case 47, 48, 49, 50 -> due("told(" + visit + ", " + small + ", " + what + ")",
                x.told(visit, small, what), model.told(visit, small, what));
            case 51, 52 -> due("dealt(" + small + ", " + what + ")", x.dealt(small, what), model.dealt(small, what));
            case 53, 54 -> due("part(" + thousandths + ", " + visit + ")",
                x.part(thousandths, visit), model.part(thousandths, visit));
            case 55, 56 -> due("late(" + tick + ", " + visit + ")", x.late(tick, visit), model.late(tick, visit));
            case 57 -> due("behind()", x.behind(), model.behind());
            case 58 -> due("waiting(" + tick + ")", x.waiting(tick), model.waiting(tick));
            default -> due("count(" + what + ")", x.count(what), model.count(what));
        }
    }
}
