/** Promises 1 to 10: each sentence that names a boundary has a test of its own here. */
public final class LogBoundariesTest {
    private static final int NONE = LoadPress.NONE;
    private static final int END = LoadPress.END;
    /** Eleven times this is 1 behind a wrap-around, so that a row of STEPS would be met again. */
    private static final int ELEVENTH = -1171354717;
    private static final int[] NO_PLACES = {-1, 11, Integer.MIN_VALUE, Integer.MAX_VALUE, ELEVENTH, 1 << 16};

    public static void main(String[] args) {
        newObject();
        visit();
        ask();
        clear();
        steps();
        waits();
        rare();
        cost();
        contexts();
        states();
        Check.end();
    }

    private static void due(String call, long got, long want) {
        Check.due(call, got, want);
    }

    // ---- Promise 1

    private static void newObject() {
        Check.sentence("1: An empty LOG: no VISITS, ASKS, STEPS", LogBoundariesTest::newHasNoLog);
        Check.sentence("1: An empty LOG: no STEP has a COUNT", LogBoundariesTest::newHasNoSteps);
        Check.sentence("1: An empty LOG: no WAITS", LogBoundariesTest::newHasNoWaits);
        Check.sentence("1: no PRESS", LogBoundariesTest::newHasNoPress);
        Check.sentence("Terms: COST 1 at first", LogBoundariesTest::newHasCostsOfOne);
        Check.sentence("Terms: no RARE number was told", LogBoundariesTest::newHasNoRare);
    }

    private static void newHasNoLog() {
        LoadPress x = new LoadPress();
        due("count(0)", x.count(0), 0);
        due("count(1)", x.count(1), 0);
        due("count(6)", x.count(6), 0);
        due("ask(0, 0)", x.ask(0, 0), NONE);
        due("press(1, 0, 1)", x.press(1, 0, 1), NONE);
    }

    private static void newHasNoSteps() {
        LoadPress x = new LoadPress();
        for (int from = 0; from <= END; from++) {
            for (int to = 0; to <= END; to++) {
                due("steps(" + from + ", " + to + ")", x.steps(from, to), 0);
            }
        }
    }

    private static void newHasNoWaits() {
        LoadPress x = new LoadPress();
        for (int from = 0; from <= END; from++) {
            for (int to = 0; to <= END; to++) {
                due("waits(" + from + ", " + to + ", 0)", x.waits(from, to, 0), 0);
                due("waits(" + from + ", " + to + ", 60)", x.waits(from, to, 60), 0);
            }
        }
    }

    private static void newHasNoPress() {
        LoadPress x = new LoadPress();
        due("walked(0)", x.walked(0), NONE);
        due("told(0, 0, 0)", x.told(0, 0, 0), NONE);
        due("dealt(10, 0)", x.dealt(END, 0), 0);
        due("part(1, 0)", x.part(1, 0), NONE);
        due("late(0, 0)", x.late(0, 0), NONE);
        due("behind()", x.behind(), NONE);
        due("waiting(0)", x.waiting(0), NONE);
        due("learn()", x.learn(), NONE);
    }

    private static void newHasCostsOfOne() {
        LoadPress x = new LoadPress();
        Given.log(x, 0, 1, 2, 3, 4, 5, 6, 7, 8, 9);
        x.press(1, 0, 1);
        for (int i = 0; i < 10; i++) {
            due("END of ASK " + i, x.told(0, i, 4), i + 1);
        }
    }

    private static void newHasNoRare() {
        LoadPress x = Given.allSteps();
        for (int from = 0; from <= END; from++) {
            for (int to = 0; to <= END; to++) {
                due("steps(" + from + ", " + to + ")", x.steps(from, to), from == END && to == END ? 0 : 1);
            }
        }
    }

    // ---- Promise 2

    private static void visit() {
        Check.sentence("2: A new VISIT: its number, from 0 to 59", LogBoundariesTest::visitNumbers);
        Check.sentence("2: NONE: there are 60", LogBoundariesTest::visitRefused);
        Check.sentence("2: there are 60, without an ASK", LogBoundariesTest::visitsWithoutAsks);
        Check.sentence("2: there are 60, learnt ones", LogBoundariesTest::visitBehindLearnt);
        Check.sentence("2: there are none any more once it is cleared", LogBoundariesTest::visitBehindClear);
    }

    private static LoadPress sixtyVisits() {
        LoadPress x = new LoadPress();
        for (int i = 0; i < 60; i++) {
            Given.log(x, 3);
        }
        return x;
    }

    private static void visitNumbers() {
        LoadPress x = new LoadPress();
        for (int i = 0; i < 60; i++) {
            due("VISITS ahead", x.count(0), i);
            due("visit()", x.visit(), i);
        }
    }

    private static void visitRefused() {
        LoadPress x = sixtyVisits();
        due("the 61st", x.visit(), NONE);
        due("the 62nd", x.visit(), NONE);
        due("VISITS", x.count(0), 60);
        due("an ASK still goes to the 60th", x.ask(4, 0), 2);
        due("behind its first", x.steps(3, 4), 1);
    }

    private static void visitsWithoutAsks() {
        LoadPress x = new LoadPress();
        for (int i = 0; i < 60; i++) {
            x.visit();
        }
        due("the 61st", x.visit(), NONE);
        due("VISITS", x.count(0), 60);
        due("ASKS", x.count(1), 0);
    }

    private static void visitBehindLearnt() {
        LoadPress x = Given.slowPage();
        x.press(59, 0, 1);
        x.learn();
        due("the 60th", x.visit(), 59);
        due("the 61st", x.visit(), NONE);
        x.press(60, 0, 1);
        x.learn();
        due("behind 60 learnt ones", x.visit(), NONE);
    }

    private static void visitBehindClear() {
        LoadPress x = sixtyVisits();
        x.clear();
        due("visit()", x.visit(), 0);
        due("VISITS", x.count(0), 1);
    }

    // ---- Promise 3

    private static void ask() {
        Check.sentence("3: how many it has, from 1 to 20", LogBoundariesTest::askNumbers);
        Check.sentence("3: NONE: no VISIT", LogBoundariesTest::askWithoutVisit);
        Check.sentence("3: NONE: out of bounds: the PAGE", LogBoundariesTest::askOfNoPage);
        Check.sentence("3: NONE: out of bounds: the WAIT", LogBoundariesTest::askOfNoWait);
        Check.sentence("3: NONE: there are 20", LogBoundariesTest::askOfFullVisit);
        Check.sentence("3: there are 20, learnt ones", LogBoundariesTest::askOfLearntVisit);
        Check.sentence("3: of the latest VISIT", LogBoundariesTest::askOfLatestVisit);
        Check.sentence("Terms: 60 VISITS of 20 ASKS at most", LogBoundariesTest::askOfFullLog);
    }

    private static void askNumbers() {
        LoadPress x = new LoadPress();
        x.visit();
        for (int i = 1; i <= 20; i++) {
            due("ask " + i, x.ask(i % 10, 3 * i), i);
            due("ASKS", x.count(1), i);
        }
    }

    private static void askWithoutVisit() {
        LoadPress x = new LoadPress();
        due("of a new object", x.ask(0, 0), NONE);
        x.visit();
        due("of a VISIT", x.ask(0, 0), 1);
        x.clear();
        due("of a cleared LOG", x.ask(0, 0), NONE);
        due("ASKS", x.count(1), 0);
        due("STEPS", x.count(6), 0);
    }

    private static void askOfNoPage() {
        LoadPress x = new LoadPress();
        x.visit();
        for (int page : new int[] {-1, 10, 11, Integer.MIN_VALUE, Integer.MAX_VALUE}) {
            due("ask(" + page + ", 0)", x.ask(page, 0), NONE);
        }
        due("ASKS", x.count(1), 0);
        due("the lowest", x.ask(0, 0), 1);
        due("the highest", x.ask(9, 0), 2);
        due("its STEP", x.steps(0, 9), 1);
    }

    private static void askOfNoWait() {
        LoadPress x = new LoadPress();
        x.visit();
        for (int wait : new int[] {-1, 61, Integer.MIN_VALUE, Integer.MAX_VALUE}) {
            due("ask(0, " + wait + ")", x.ask(0, wait), NONE);
        }
        due("ASKS", x.count(1), 0);
        due("the least", x.ask(0, 0), 1);
        due("the most", x.ask(0, 60), 2);
        due("its WAIT", x.waits(0, 0, 60), 1);
    }

    private static void askOfFullVisit() {
        LoadPress x = new LoadPress();
        Given.log(x, 7);
        x.visit();
        for (int i = 0; i < 20; i++) {
            x.ask(1, 0);
        }
        due("the 21st", x.ask(2, 0), NONE);
        due("the 22nd", x.ask(1, 0), NONE);
        due("ASKS", x.count(1), 21);
        due("its STEP", x.steps(1, 2), 0);
        due("the last one's STEP to END", x.steps(1, END), 1);
        due("other STEPS", x.steps(1, 1), 19);
        x.visit();
        due("the next VISIT's first", x.ask(2, 0), 1);
    }

    private static void askOfLearntVisit() {
        LoadPress x = Given.longWalks(0);
        x.press(1, 0, 1);
        x.learn();
        due("behind 20 learnt ones", x.ask(0, 0), NONE);
        LoadPress y = new LoadPress();
        Given.log(y, 1, 2, 3);
        y.press(1, 0, 1);
        y.learn();
        due("behind 3 learnt ones", y.ask(4, 0), 4);
    }

    private static void askOfLatestVisit() {
        LoadPress x = new LoadPress();
        Given.log(x, 1);
        x.visit();
        due("not of the one ahead", x.ask(2, 0), 1);
        due("from START", x.steps(END, 2), 1);
        due("no STEP between VISITS", x.steps(1, 2), 0);
    }

    private static void askOfFullLog() {
        LoadPress x = Given.fullLog(60);
        due("VISITS", x.count(0), 60);
        due("ASKS", x.count(1), 1200);
        due("visit()", x.visit(), NONE);
        due("ask(0, 0)", x.ask(0, 0), NONE);
        due("ASKS still", x.count(1), 1200);
    }

    // ---- Promise 4

    private static void clear() {
        Check.sentence("4: The LOG is empty, if it was empty", LogBoundariesTest::clearOfEmptyLog);
        Check.sentence("4: The LOG is empty, if it was full", LogBoundariesTest::clearOfFullLog);
        Check.sentence("4: RARE numbers stay", LogBoundariesTest::clearLeavesRare);
        Check.sentence("4: COSTS stay", LogBoundariesTest::clearLeavesCosts);
        Check.sentence("4: the LOG alone is empty", LogBoundariesTest::clearLeavesPress);
    }

    private static void clearOfEmptyLog() {
        LoadPress x = new LoadPress();
        x.clear();
        x.clear();
        due("count(0)", x.count(0), 0);
        due("visit()", x.visit(), 0);
        due("ask(1, 2)", x.ask(1, 2), 1);
        due("steps(10, 1)", x.steps(END, 1), 1);
    }

    private static void clearOfFullLog() {
        LoadPress x = Given.fullLog(60);
        x.clear();
        due("count(0)", x.count(0), 0);
        due("count(1)", x.count(1), 0);
        due("count(6)", x.count(6), 0);
        for (int k = 1; k <= 4; k++) {
            due("contexts(" + k + ")", x.contexts(k), 0);
            due("states(" + k + ")", x.states(k), 0);
        }
        for (int from = 0; from <= END; from++) {
            for (int to = 0; to <= END; to++) {
                due("steps(" + from + ", " + to + ")", x.steps(from, to), 0);
                due("waits(" + from + ", " + to + ", 60)", x.waits(from, to, 60), 0);
            }
        }
    }

    private static void clearLeavesRare() {
        LoadPress x = new LoadPress();
        Given.log(x, 1);
        x.rare(END, 1, 8);
        x.rare(1, END, 9);
        x.clear();
        due("none is there", x.steps(END, 1), 0);
        Given.log(x, 1);
        due("from START", x.steps(END, 1), 8);
        due("to END", x.steps(1, END), 9);
    }

    private static void clearLeavesCosts() {
        LoadPress x = Given.slowPage();
        x.clear();
        Given.log(x, 5);
        x.press(1, 0, 1);
        due("COST", x.told(0, 0, 4) - x.told(0, 0, 3), 10);
    }

    private static void clearLeavesPress() {
        LoadPress x = Given.slowPress();
        x.clear();
        due("walked(2)", x.walked(2), 1);
        due("told(2, 0, 4)", x.told(2, 0, 4), 30);
        due("dealt(10, 5)", x.dealt(END, 5), 3);
        due("part(1000, 0)", x.part(1000, 0), 20);
        due("late(10, 0)", x.late(10, 0), 2);
        due("behind()", x.behind(), 5);
        due("waiting(5)", x.waiting(5), 1);
        due("learn()", x.learn(), 3);
    }

    // ---- Promise 5

    private static void steps() {
        Check.sentence("5: from 0 .. 10, 0 for others", LogBoundariesTest::stepsFromNowhere);
        Check.sentence("5: to 0 .. 10, 0 for others", LogBoundariesTest::stepsToNowhere);
        Check.sentence("Terms: a VISIT without ASKS has none", LogBoundariesTest::stepsOfEmptyVisit);
        Check.sentence("Terms: from START to the first, from the last to END", LogBoundariesTest::stepsOfShortVisit);
        Check.sentence("Terms: at least a RARE number", LogBoundariesTest::stepsAtLeastRare);
        Check.sentence("Terms: how often it is in the LOG, at most", LogBoundariesTest::stepsOfFullLog);
    }

    private static void stepsFromNowhere() {
        LoadPress x = Given.allSteps();
        due("from 0", x.steps(0, 0), 1);
        due("from 10", x.steps(END, 9), 1);
        for (int from : NO_PLACES) {
            for (int to = 0; to <= END; to++) {
                due("steps(" + from + ", " + to + ")", x.steps(from, to), 0);
            }
        }
    }

    private static void stepsToNowhere() {
        LoadPress x = Given.allSteps();
        due("to 0", x.steps(9, 0), 1);
        due("to 10", x.steps(9, END), 1);
        for (int to : NO_PLACES) {
            for (int from = 0; from <= END; from++) {
                due("steps(" + from + ", " + to + ")", x.steps(from, to), 0);
            }
        }
        due("both out of bounds", x.steps(-1, 12), 0);
        due("two rows on", x.steps(0, 22), 0);
    }

    private static void stepsOfEmptyVisit() {
        LoadPress x = new LoadPress();
        x.visit();
        due("count(6)", x.count(6), 0);
        due("START to END", x.steps(END, END), 0);
        Given.log(x, 1);
        x.visit();
        due("between others", x.steps(END, END), 0);
        due("START to 1", x.steps(END, 1), 1);
        due("unlike ones", x.count(6), 2);
    }

    private static void stepsOfShortVisit() {
        LoadPress x = new LoadPress();
        Given.log(x, 6);
        due("START to 6", x.steps(END, 6), 1);
        due("6 to END", x.steps(6, END), 1);
        due("6 to 6", x.steps(6, 6), 0);
        x.ask(6, 0);
        due("START to 6 of two", x.steps(END, 6), 1);
        due("6 to 6 of two", x.steps(6, 6), 1);
        due("6 to END of two", x.steps(6, END), 1);
    }

    private static void stepsAtLeastRare() {
        LoadPress x = new LoadPress();
        Given.log(x, 1, 1, 1, 1);
        int[][] all = {{0, 3}, {1, 3}, {2, 3}, {3, 3}, {4, 4}, {100, 100}};
        for (int[] one : all) {
            x.rare(1, 1, one[0]);
            due("3 times, RARE " + one[0], x.steps(1, 1), one[1]);
        }
    }

    private static void stepsOfFullLog() {
        LoadPress x = Given.fullLog(0);
        due("START to 0", x.steps(END, 0), 60);
        due("0 to 1", x.steps(0, 1), 120);
        due("9 to 0", x.steps(9, 0), 100);
        x.rare(9, 0, 0);
        due("9 to 0, not RARE", x.steps(9, 0), 60);
        due("9 to END", x.steps(9, END), 60);
    }

    // ---- Promise 6

    private static void waits() {
        Check.sentence("6: a WAIT of 0 .. 60, 0 for others", LogBoundariesTest::waitsOfNoWait);
        Check.sentence("6: a STEP, 0 for others", LogBoundariesTest::waitsOfNoStep);
        Check.sentence("Terms: WAITS of a STEP (not to END)", LogBoundariesTest::waitsToEnd);
        Check.sentence("6: in the LOG, without RARE numbers", LogBoundariesTest::waitsWithoutRare);
        Check.sentence("6: how often, at most", LogBoundariesTest::waitsOfFullLog);
    }

    private static void waitsOfNoWait() {
        LoadPress x = new LoadPress();
        for (int wait = 0; wait <= 59; wait++) {
            Given.logWaits(x, 1, wait);
        }
        x.ask(1, 60);
        for (int wait = 0; wait <= 59; wait++) {
            due("waits(10, 1, " + wait + ")", x.waits(END, 1, wait), 1);
        }
        due("waits(10, 1, 60)", x.waits(END, 1, 60), 0);
        due("waits(1, 1, 60)", x.waits(1, 1, 60), 1);
        for (int wait : new int[] {-1, 61, 122, Integer.MIN_VALUE, Integer.MAX_VALUE}) {
            due("waits(10, 1, " + wait + ")", x.waits(END, 1, wait), 0);
        }
    }

    private static void waitsOfNoStep() {
        LoadPress x = Given.allSteps();
        due("from 10", x.waits(END, 9, 0), 1);
        due("from 0", x.waits(0, 0, 0), 1);
        for (int wrong : NO_PLACES) {
            for (int place = 0; place <= END; place++) {
                due("waits(" + wrong + ", " + place + ", 0)", x.waits(wrong, place, 0), 0);
                due("waits(" + place + ", " + wrong + ", 0)", x.waits(place, wrong, 0), 0);
            }
        }
    }

    private static void waitsToEnd() {
        LoadPress x = Given.allSteps();
        for (int from = 0; from <= END; from++) {
            for (int wait = 0; wait <= 3; wait++) {
                due("waits(" + from + ", 10, " + wait + ")", x.waits(from, END, wait), 0);
            }
        }
    }

    private static void waitsWithoutRare() {
        LoadPress x = new LoadPress();
        Given.logWaits(x, 1, 4, 4, 5);
        x.rare(END, 1, 100);
        x.rare(END, 2, 100);
        due("4", x.waits(END, 1, 4), 2);
        due("5", x.waits(END, 1, 5), 1);
        due("not there", x.waits(END, 2, 4), 0);
    }

    private static void waitsOfFullLog() {
        LoadPress x = Given.fullLog(60);
        due("START to 0", x.waits(END, 0, 60), 60);
        due("0 to 1", x.waits(0, 1, 60), 120);
        due("9 to 0", x.waits(9, 0, 60), 60);
        due("another WAIT", x.waits(0, 1, 59), 0);
    }

    // ---- Promise 7

    private static void rare() {
        Check.sentence("7: A RARE number (0 .. 100)", LogBoundariesTest::rareNumbers);
        Check.sentence("7: 0: none", LogBoundariesTest::rareNone);
        Check.sentence("7: False: out of bounds: the number", LogBoundariesTest::rareOfNoNumber);
        Check.sentence("7: False: out of bounds: the STEP", LogBoundariesTest::rareOfNoStep);
        Check.sentence("7: each STEP its own", LogBoundariesTest::rareOfEachStep);
        Check.sentence("Terms: if it is there and a RARE number was told", LogBoundariesTest::rareWhereNotThere);
        Check.sentence("7: START to END, which is never there", LogBoundariesTest::rareOfStartToEnd);
    }

    private static void rareNumbers() {
        LoadPress x = new LoadPress();
        Given.log(x, 1);
        for (int times = 0; times <= 100; times++) {
            Check.due("rare(10, 1, " + times + ")", x.rare(END, 1, times), true);
            due("COUNT", x.steps(END, 1), Math.max(times, 1));
        }
    }

    private static void rareNone() {
        LoadPress x = new LoadPress();
        Given.log(x, 1);
        Check.due("rare(10, 1, 40)", x.rare(END, 1, 40), true);
        Check.due("rare(10, 1, 0)", x.rare(END, 1, 0), true);
        due("COUNT", x.steps(END, 1), 1);
        Check.due("0 for one without", x.rare(1, END, 0), true);
        due("its COUNT", x.steps(1, END), 1);
    }

    private static void rareOfNoNumber() {
        LoadPress x = new LoadPress();
        Given.log(x, 1);
        x.rare(END, 1, 40);
        for (int times : new int[] {-1, 101, Integer.MIN_VALUE, Integer.MAX_VALUE}) {
            Check.due("rare(10, 1, " + times + ")", x.rare(END, 1, times), false);
            due("COUNT", x.steps(END, 1), 40);
        }
    }

    private static void rareOfNoStep() {
        LoadPress x = Given.allSteps();
        for (int wrong : NO_PLACES) {
            for (int place : new int[] {0, 5, 9, END}) {
                Check.due("rare(" + wrong + ", " + place + ", 50)", x.rare(wrong, place, 50), false);
                Check.due("rare(" + place + ", " + wrong + ", 50)", x.rare(place, wrong, 50), false);
            }
        }
        for (int from = 0; from <= END; from++) {
            for (int to = 0; to < END; to++) {
                due("COUNT of " + from + ", " + to, x.steps(from, to), 1);
            }
        }
    }

    private static void rareOfEachStep() {
        LoadPress x = Given.allSteps();
        for (int from = 0; from <= END; from++) {
            for (int to = 0; to <= END; to++) {
                Check.due("rare(" + from + ", " + to + ", ..)", x.rare(from, to, (from * 11 + to) % 101), true);
            }
        }
        for (int from = 0; from <= END; from++) {
            for (int to = 0; to < END; to++) {
                due("COUNT of " + from + ", " + to, x.steps(from, to), Math.max(1, (from * 11 + to) % 101));
            }
        }
    }

    private static void rareWhereNotThere() {
        LoadPress x = new LoadPress();
        Given.log(x, 1);
        x.rare(1, 2, 30);
        due("not there", x.steps(1, 2), 0);
        x.press(3, 0, 1);
        due("not walked", x.dealt(1, 2), 0);
        x.ask(2, 0);
        due("there", x.steps(1, 2), 30);
        x.rare(1, END, 30);
        due("no more there", x.steps(1, END), 0);
    }

    private static void rareOfStartToEnd() {
        LoadPress x = new LoadPress();
        x.visit();
        Given.log(x, 1);
        Check.due("rare(10, 10, 100)", x.rare(END, END, 100), true);
        due("COUNT", x.steps(END, END), 0);
        due("press", x.press(5, 0, 1), 5);
        due("dealt", x.dealt(END, END), 0);
    }

    // ---- Promise 8

    private static void cost() {
        Check.sentence("8: COST of a PAGE (1 .. 50)", LogBoundariesTest::costNumbers);
        Check.sentence("8: False: out of bounds: the ticks", LogBoundariesTest::costOfNoTicks);
        Check.sentence("8: False: out of bounds: the PAGE", LogBoundariesTest::costOfNoPage);
        Check.sentence("8: the latest PRESS is as it was", LogBoundariesTest::costBehindPress);
    }

    private static void costNumbers() {
        LoadPress x = new LoadPress();
        Given.log(x, 0);
        for (int ticks = 1; ticks <= 50; ticks++) {
            Check.due("cost(0, " + ticks + ")", x.cost(0, ticks), true);
            x.press(1, 0, 1);
            due("END", x.told(0, 0, 4), ticks);
        }
    }

    private static void costOfNoTicks() {
        LoadPress x = Given.slowPage();
        for (int ticks : new int[] {0, -1, 51, Integer.MIN_VALUE, Integer.MAX_VALUE}) {
            Check.due("cost(5, " + ticks + ")", x.cost(5, ticks), false);
            x.press(1, 0, 1);
            due("END", x.told(0, 0, 4), 10);
        }
    }

    private static void costOfNoPage() {
        LoadPress x = new LoadPress();
        Given.log(x, 0, 1, 2, 3, 4, 5, 6, 7, 8, 9);
        for (int page : new int[] {-1, 10, 11, Integer.MIN_VALUE, Integer.MAX_VALUE}) {
            Check.due("cost(" + page + ", 7)", x.cost(page, 7), false);
        }
        Check.due("the lowest", x.cost(0, 3), true);
        Check.due("the highest", x.cost(9, 5), true);
        x.press(1, 0, 1);
        due("ticks of work", x.count(5), 3 + 8 + 5);
    }

    private static void costBehindPress() {
        LoadPress x = Given.slowPress();
        x.cost(5, 50);
        due("END", x.told(2, 0, 4), 30);
        due("its last END", x.count(4), 30);
        due("ticks of work", x.count(5), 30);
        due("part(1000, 0)", x.part(1000, 0), 20);
    }

    // ---- Promise 9

    private static void contexts() {
        Check.sentence("9: NONE: k", LogBoundariesTest::contextsOfNoLength);
        Check.sentence("9: none in an empty LOG", LogBoundariesTest::contextsOfEmptyLog);
        Check.sentence("Terms: rows of k PAGES, in a VISIT of fewer or k", LogBoundariesTest::contextsOfShortVisits);
        Check.sentence("Terms: rows in a VISIT, not over two", LogBoundariesTest::contextsOverTwoVisits);
        Check.sentence("9: unlike CONTEXTS", LogBoundariesTest::contextsThatComeAgain);
        Check.sentence("9: CONTEXTS with PAGE 0 ahead", LogBoundariesTest::contextsWithZeros);
        Check.sentence("9: of a full LOG", LogBoundariesTest::contextsOfFullLog);
    }

    private static void contextsOfNoLength() {
        LoadPress x = Given.longWalks(0);
        for (int k : new int[] {0, -1, 5, 20, Integer.MIN_VALUE, Integer.MAX_VALUE}) {
            due("contexts(" + k + ")", x.contexts(k), NONE);
        }
        due("contexts(1)", x.contexts(1), 10);
        due("contexts(4)", x.contexts(4), 10);
    }

    private static void contextsOfEmptyLog() {
        LoadPress x = new LoadPress();
        for (int k = 1; k <= 4; k++) {
            due("contexts(" + k + ")", x.contexts(k), 0);
        }
        x.visit();
        for (int k = 1; k <= 4; k++) {
            due("contexts(" + k + ") of a VISIT without ASKS", x.contexts(k), 0);
        }
        due("k, of an empty LOG too", x.contexts(0), NONE);
    }

    private static void contextsOfShortVisits() {
        LoadPress x = new LoadPress();
        x.visit();
        for (int asks = 1; asks <= 5; asks++) {
            x.ask(asks, 0);
            for (int k = 1; k <= 4; k++) {
                due("contexts(" + k + ") of " + asks + " ASKS", x.contexts(k), Math.max(asks - k + 1, 0));
            }
        }
    }

    private static void contextsOverTwoVisits() {
        LoadPress x = new LoadPress();
        Given.log(x, 1, 2);
        x.visit();
        Given.log(x, 3, 4);
        due("contexts(2): 12 34", x.contexts(2), 2);
        due("contexts(3)", x.contexts(3), 0);
    }

    private static void contextsThatComeAgain() {
        LoadPress x = new LoadPress();
        Given.log(x, 1, 1, 1, 1, 1);
        for (int k = 1; k <= 4; k++) {
            due("contexts(" + k + ")", x.contexts(k), 1);
        }
        Given.log(x, 1, 1);
        due("in two VISITS", x.contexts(2), 1);
        Given.log(x, 1, 2, 1);
        due("12 and 21 too", x.contexts(2), 3);
        LoadPress y = new LoadPress();
        Given.log(y, 2, 1, 2);
        due("2 again, behind a lower one", y.contexts(1), 2);
    }

    private static void contextsWithZeros() {
        LoadPress x = new LoadPress();
        Given.log(x, 0, 0, 0, 1, 0);
        due("0 1", x.contexts(1), 2);
        due("00 01 10", x.contexts(2), 3);
        due("000 001 010", x.contexts(3), 3);
        due("0001 0010", x.contexts(4), 2);
    }

    private static void contextsOfFullLog() {
        LoadPress x = Given.fullLog(0);
        for (int k = 1; k <= 4; k++) {
            due("contexts(" + k + ")", x.contexts(k), 10);
        }
    }

    // ---- Promise 10

    private static void states() {
        Check.sentence("10: NONE: k", LogBoundariesTest::statesOfNoLength);
        Check.sentence("10: none in an empty LOG", LogBoundariesTest::statesOfEmptyLog);
        Check.sentence("Terms: ALIKE in the same proportions", LogBoundariesTest::statesInProportion);
        Check.sentence("Terms: NEXT: or END", LogBoundariesTest::statesWithEnd);
        Check.sentence("Terms: NEXT: END is no PAGE", LogBoundariesTest::statesWhereEndIsNoPage);
        Check.sentence("Terms: not ALIKE: a PAGE more", LogBoundariesTest::statesWithOneMore);
        Check.sentence("Terms: not ALIKE: the same numbers for other PAGES", LogBoundariesTest::statesOfOtherPages);
        Check.sentence("10: all of them taken as one", LogBoundariesTest::statesAllAlike);
        Check.sentence("Terms: NEXT is of the LOG, without RARE numbers", LogBoundariesTest::statesWithoutRare);
        Check.sentence("10: of a full LOG", LogBoundariesTest::statesOfFullLog);
    }

    private static void statesOfNoLength() {
        LoadPress x = Given.longWalks(0);
        for (int k : new int[] {0, -1, 5, 20, Integer.MIN_VALUE, Integer.MAX_VALUE}) {
            due("states(" + k + ")", x.states(k), NONE);
        }
        due("states(1)", x.states(1), 10);
        due("states(4)", x.states(4), 10);
    }

    private static void statesOfEmptyLog() {
        LoadPress x = new LoadPress();
        for (int k = 1; k <= 4; k++) {
            due("states(" + k + ")", x.states(k), 0);
        }
        x.visit();
        due("of a VISIT without ASKS", x.states(1), 0);
        due("k, of an empty LOG too", x.states(5), NONE);
        x.ask(1, 0);
        due("of one ASK", x.states(1), 1);
        due("too short", x.states(2), 0);
    }

    /** Behind 1 come 3 and 4 so often, behind 2 too; 3 and 4 end and are ALIKE. */
    private static int statesOf(int oneToThree, int oneToFour, int twoToThree, int twoToFour) {
        LoadPress x = new LoadPress();
        int[][] roads = {{1, 3, oneToThree}, {1, 4, oneToFour}, {2, 3, twoToThree}, {2, 4, twoToFour}};
        for (int[] road : roads) {
            for (int i = 0; i < road[2]; i++) {
                Given.log(x, road[0], road[1]);
            }
        }
        return x.states(1);
    }

    private static void statesInProportion() {
        due("1 to 1 and 1 to 1", statesOf(1, 1, 1, 1), 2);
        due("1 to 2 and 10 to 20", statesOf(1, 2, 10, 20), 2);
        due("2 to 4 and 3 to 6", statesOf(2, 4, 3, 6), 2);
        due("10 to 20 and 10 to 19", statesOf(10, 20, 10, 19), 3);
        due("1 to 2 and 2 to 1", statesOf(1, 2, 2, 1), 3);
        due("7 to 0 and 1 to 0", statesOf(7, 0, 1, 0), 2);
    }

    private static void statesWithEnd() {
        LoadPress x = new LoadPress();
        Given.log(x, 1, 3);
        Given.log(x, 2, 3);
        Given.log(x, 1);
        due("1: 3 and END, 2: 3, 3: END", x.states(1), 3);
        Given.log(x, 2);
        due("1 and 2: 3 and END", x.states(1), 2);
        due("12, 23: END", x.states(2), 1);
    }

    private static void statesWhereEndIsNoPage() {
        for (int page : new int[] {0, 9}) {
            LoadPress x = new LoadPress();
            Given.log(x, 1, page);
            Given.log(x, 2);
            due("1: " + page + ", 2: END, " + page + ": END", x.states(1), 2);
        }
    }

    private static void statesWithOneMore() {
        due("3 alone, and 3 with 4", statesOf(1, 0, 1, 1), 3);
        due("the other way", statesOf(1, 1, 1, 0), 3);
        due("twice 3 alone", statesOf(2, 0, 1, 1), 3);
    }

    private static void statesOfOtherPages() {
        due("3 alone, and 4 alone", statesOf(1, 0, 0, 1), 3);
    }

    private static void statesAllAlike() {
        LoadPress x = new LoadPress();
        for (int page = 0; page < 10; page++) {
            Given.log(x, page);
        }
        due("CONTEXTS", x.contexts(1), 10);
        due("all to END", x.states(1), 1);
    }

    private static void statesWithoutRare() {
        LoadPress x = new LoadPress();
        Given.log(x, 1, 3);
        Given.log(x, 2, 3);
        x.rare(1, 3, 100);
        x.rare(1, END, 100);
        due("1 and 2 ALIKE", x.states(1), 2);
    }

    private static void statesOfFullLog() {
        LoadPress x = Given.fullLog(0);
        for (int k = 1; k <= 4; k++) {
            due("states(" + k + ")", x.states(k), 10);
        }
    }
}
