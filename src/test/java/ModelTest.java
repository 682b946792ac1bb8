import java.util.Random;

/** Long runs of chance calls, each answered by the class and by the plain model. */
public final class ModelTest {
    private static final int RUNS = 80;
    private static final int CALLS = 500;

    private final LoadPress x = new LoadPress();
    private final PlainPress model = new PlainPress();
    private final Random chance;
    private final int pages;
    private final int mostWait;
    private final String run;

    private ModelTest(int seed) {
        chance = new Random(seed);
        pages = 1 + chance.nextInt(10);
        mostWait = chance.nextInt(3) == 0 ? 60 : chance.nextInt(8);
        run = "run " + seed + ": ";
    }

    public static void main(String[] args) {
        for (int seed = 0; seed < RUNS && !Check.hasWrong(); seed++) {
            new ModelTest(seed).walk();
        }
        Check.end();
    }

    private void walk() {
        for (int call = 0; call < CALLS && !Check.hasWrong(); call++) {
            int kind = chance.nextInt(100);
            if (kind < 52) {
                fillLog(kind);
            } else if (kind < 60) {
                changeSettings(kind);
            } else if (kind < 64) {
                pressAndLook();
            } else if (kind == 64) {
                due("learn()", x.learn(), model.learn());
            } else if (kind == 65 && chance.nextInt(8) == 0) {
                x.clear();
                model.clear();
            } else {
                askAboutLog();
                askAboutPress();
            }
        }
    }

    private void due(String call, long got, long want) {
        Check.due(run + call, got, want);
    }

    private int page() {
        return chance.nextInt(40) == 0 ? chance.nextInt(14) - 2 : chance.nextInt(pages);
    }

    private int place() {
        return chance.nextInt(4) == 0 ? LoadPress.END : page();
    }

    private int near(int least, int most) {
        return least - 2 + chance.nextInt(most - least + 5);
    }

    private void fillLog(int kind) {
        if (kind < 10) {
            due("visit()", x.visit(), model.visit());
            return;
        }
        int page = page();
        int wait = chance.nextInt(40) == 0 ? near(0, 60) : chance.nextInt(mostWait + 1);
        due("ask(" + page + ", " + wait + ")", x.ask(page, wait), model.ask(page, wait));
    }

    private void changeSettings(int kind) {
        if (kind < 56) {
            int from = place();
            int to = place();
            int times = chance.nextInt(3) == 0 ? near(0, 100) : chance.nextInt(12);
            Check.due(run + "rare(" + from + ", " + to + ", " + times + ")",
                x.rare(from, to, times), model.rare(from, to, times));
            return;
        }
        int page = page();
        int ticks = chance.nextInt(3) == 0 ? near(1, 50) : 1 + chance.nextInt(12);
        Check.due(run + "cost(" + page + ", " + ticks + ")", x.cost(page, ticks), model.cost(page, ticks));
    }

    private void pressAndLook() {
        int visits = chance.nextInt(3) == 0 ? near(1, 60) : 1 + chance.nextInt(60);
        int gap = chance.nextInt(4) == 0 ? near(0, 100) : chance.nextInt(12);
        int servers = near(1, 8);
        due("press(" + visits + ", " + gap + ", " + servers + ")",
            x.press(visits, gap, servers), model.press(visits, gap, servers));
        for (int visit = -1; visit <= 60; visit++) {
            due("walked(" + visit + ")", x.walked(visit), model.walked(visit));
            for (int i = -1; i <= model.walked(visit); i++) {
                for (int what = -1; what <= 6; what++) {
                    due("told(" + visit + ", " + i + ", " + what + ")",
                        x.told(visit, i, what), model.told(visit, i, what));
                }
            }
        }
        due("behind()", x.behind(), model.behind());
    }

    private void askAboutLog() {
        int from = place();
        int to = place();
        int wait = chance.nextInt(10) == 0 ? near(0, 60) : chance.nextInt(mostWait + 1);
        int k = near(1, 4);
        due("steps(" + from + ", " + to + ")", x.steps(from, to), model.steps(from, to));
        due("waits(" + from + ", " + to + ", " + wait + ")", x.waits(from, to, wait), model.waits(from, to, wait));
        due("contexts(" + k + ")", x.contexts(k), model.contexts(k));
        due("states(" + k + ")", x.states(k), model.states(k));
        for (int what = -2; what <= 8; what++) {
            due("count(" + what + ")", x.count(what), model.count(what));
        }
    }

    private void askAboutPress() {
        int from = place();
        int to = place();
        int first = chance.nextInt(3) == 0 ? near(0, 60) : chance.nextInt(4);
        int thousandths = near(1, 1000);
        int end = model.count(4);
        int tick = chance.nextInt(10) == 0 ? near(-1, 1) : chance.nextInt(end + 2);
        int ticks = chance.nextInt(10) == 0 ? near(-1, 1) : chance.nextInt(60);
        due("dealt(" + from + ", " + to + ")", x.dealt(from, to), model.dealt(from, to));
        due("part(" + thousandths + ", " + first + ")", x.part(thousandths, first), model.part(thousandths, first));
        due("late(" + ticks + ", " + first + ")", x.late(ticks, first), model.late(ticks, first));
        due("waiting(" + tick + ")", x.waiting(tick), model.waiting(tick));
        due("behind()", x.behind(), model.behind());
    }
}
