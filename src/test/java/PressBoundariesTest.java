/** Promises 11 to 20: each sentence that names a boundary has a test of its own here. */
public final class PressBoundariesTest {
    private static final int NONE = LoadPress.NONE;
    private static final int END = LoadPress.END;
    private static final int LEAST = Integer.MIN_VALUE;
    private static final int MOST = Integer.MAX_VALUE;
    /** Eleven times this is 1 behind a wrap-around, so that a row of STEPS would be met again. */
    private static final int ELEVENTH = -1171354717;

    public static void main(String[] args) {
        press();
        dealing();
        walks();
        times();
        servers();
        walked();
        told();
        dealt();
        part();
        late();
        behind();
        waiting();
        learn();
        count();
        Check.end();
    }

    private static void due(String call, long got, long want) {
        Check.due(call, got, want);
    }

    // ---- Promise 11

    private static void press() {
        Check.sentence("11: NONE: out of bounds: VISITS (1 .. 60)", PressBoundariesTest::pressOfNoVisits);
        Check.sentence("11: NONE: out of bounds: GAP (0 .. 100)", PressBoundariesTest::pressOfNoGap);
        Check.sentence("11: NONE: out of bounds: SERVERS (1 .. 8)", PressBoundariesTest::pressOfNoServers);
        Check.sentence("11: NONE: no STEP from START: a new object", PressBoundariesTest::pressOfNewObject);
        Check.sentence("11: NONE: no STEP from START: VISITS without ASKS", PressBoundariesTest::pressOfEmptyVisits);
        Check.sentence("11: NONE: no STEP from START: a cleared LOG", PressBoundariesTest::pressOfClearedLog);
        Check.sentence("11: a refused PRESS leaves the latest one", PressBoundariesTest::pressRefused);
        Check.sentence("11: how many ASKS, at most", PressBoundariesTest::pressOfMost);
        Check.sentence("11: a smaller PRESS behind a larger one", PressBoundariesTest::pressSmaller);
    }

    private static void pressOfNoVisits() {
        LoadPress x = Given.slowPage();
        for (int visits : new int[] {0, -1, 61, LEAST, MOST}) {
            due("press(" + visits + ", 0, 1)", x.press(visits, 0, 1), NONE);
        }
        due("the fewest", x.press(1, 0, 1), 1);
        due("the most", x.press(60, 0, 1), 60);
    }

    private static void pressOfNoGap() {
        LoadPress x = Given.slowPage();
        for (int gap : new int[] {-1, 101, LEAST, MOST}) {
            due("press(2, " + gap + ", 1)", x.press(2, gap, 1), NONE);
        }
        due("the least", x.press(2, 0, 2), 2);
        due("all at tick 0", x.told(1, 0, 2), 0);
        due("the most", x.press(60, 100, 1), 60);
        due("the last at tick 5,900", x.told(59, 0, 2), 5900);
    }

    private static void pressOfNoServers() {
        LoadPress x = Given.slowPage();
        for (int servers : new int[] {0, -1, 9, LEAST, MOST}) {
            due("press(2, 0, " + servers + ")", x.press(2, 0, servers), NONE);
        }
        due("the fewest", x.press(9, 0, 1), 9);
        due("one behind the other", x.count(4), 90);
        due("the most", x.press(9, 0, 8), 9);
        due("eight at once", x.count(4), 20);
    }

    private static void pressOfNewObject() {
        LoadPress x = new LoadPress();
        due("press", x.press(1, 0, 1), NONE);
        due("no PRESS then", x.walked(0), NONE);
        due("nothing to learn", x.learn(), NONE);
    }

    private static void pressOfEmptyVisits() {
        LoadPress x = new LoadPress();
        x.visit();
        x.visit();
        x.rare(END, 1, 5);
        x.rare(END, END, 5);
        due("press", x.press(1, 0, 1), NONE);
        x.ask(1, 0);
        due("with an ASK", x.press(1, 0, 1), 1);
    }

    private static void pressOfClearedLog() {
        LoadPress x = Given.slowPress();
        x.clear();
        due("press", x.press(1, 0, 1), NONE);
        due("the latest PRESS", x.count(2), 3);
        x.learn();
        due("of what was learnt", x.press(1, 0, 1), 1);
    }

    private static void pressRefused() {
        LoadPress x = Given.slowPress();
        int[][] refused = {{0, 7, 2}, {61, 7, 2}, {2, -1, 2}, {2, 101, 2}, {2, 7, 0}, {2, 7, 9}};
        for (int[] one : refused) {
            due("press", x.press(one[0], one[1], one[2]), NONE);
            due("its VISITS", x.count(2), 3);
            due("its ASKS", x.count(3), 3);
            due("when it was begun", x.told(2, 0, 3), 20);
            due("its STEPS", x.dealt(END, 5), 3);
            due("BEHIND", x.behind(), 5);
        }
    }

    private static void pressOfMost() {
        LoadPress x = Given.longWalks(60);
        due("60 times 20", x.press(60, 100, 8), 1200);
        due("the last VISIT", x.walked(59), 20);
        due("its first is DUE", x.told(59, 0, 2), 5960);
    }

    private static void pressSmaller() {
        LoadPress x = Given.longestPress();
        due("one VISIT", x.press(1, 100, 8), 20);
        due("VISITS", x.count(2), 1);
        due("the second is gone", x.walked(1), NONE);
        due("its last END", x.count(4), 1000);
        due("ticks of work", x.count(5), 1000);
        due("its STEPS", x.dealt(END, 0), 1);
        due("BEHIND", x.behind(), NONE);
    }

    // ---- DEALING

    private static void dealing() {
        Check.sentence("Terms: c times N by its COUNT is below j, not j", PressBoundariesTest::dealingBelow);
        Check.sentence("Terms: cut", PressBoundariesTest::dealingCut);
        Check.sentence("Terms: c and 1 times N by its COUNT, up", PressBoundariesTest::dealingUp);
        Check.sentence("Terms: of several the lowest", PressBoundariesTest::dealingLowest);
        Check.sentence("Terms: END counts as the highest", PressBoundariesTest::dealingEndLast);
        Check.sentence("Terms: WAITS likewise, the lowest first", PressBoundariesTest::dealingWaits);
        Check.sentence("Terms: one alone comes always", PressBoundariesTest::dealingOfOne);
        Check.sentence("Terms: for each STEP its own DEALING of WAITS", PressBoundariesTest::dealingWaitsOfEach);
        Check.sentence("Terms: goes on over all WALKS of a PRESS", PressBoundariesTest::dealingGoesOn);
        Check.sentence("Terms: of a PRESS, anew for the next", PressBoundariesTest::dealingAnew);
        Check.sentence("What it is: shares less than one off: from START", PressBoundariesTest::sharesFromStart);
        Check.sentence("What it is: shares less than one off: from a PAGE", PressBoundariesTest::sharesFromPage);
        Check.sentence("What it is: shares less than one off: WAITS", PressBoundariesTest::sharesOfWaits);
    }

    /** STEPS from START to PAGES 0, 1 and so on with these COUNTS. */
    private static LoadPress countsFromStart(int... counts) {
        LoadPress x = new LoadPress();
        for (int page = 0; page < counts.length; page++) {
            Given.log(x, page);
            x.rare(END, page, counts[page]);
        }
        return x;
    }

    private static void firstPages(LoadPress x, int... pages) {
        x.press(pages.length, 0, 1);
        for (int visit = 0; visit < pages.length; visit++) {
            due("PAGE of VISIT " + visit, x.told(visit, 0, 0), pages[visit]);
        }
    }

    private static void dealingBelow() {
        // 0 may come from times 1, 3 and 5 on; at 2 it is 1 times 6 by 3, which is 2
        firstPages(countsFromStart(3, 1, 1, 1), 0, 1, 0, 2, 0, 3, 0, 1, 0, 2, 0, 3);
    }

    private static void dealingCut() {
        // at 2 it is 1 times 3 by 2 for 0: cut, it is below 2
        firstPages(countsFromStart(2, 1), 0, 0, 1, 0, 0, 1);
    }

    private static void dealingUp() {
        // at 2 it is 16 by 4 for 0 and 16 by 5 for 1: both 4
        firstPages(countsFromStart(4, 5, 7), 2, 0, 1, 2);
    }

    private static void dealingLowest() {
        firstPages(countsFromStart(1, 1, 1, 1), 0, 1, 2, 3, 0, 1, 2, 3);
    }

    private static void dealingEndLast() {
        LoadPress x = new LoadPress();
        Given.log(x, 9, 9);
        x.press(2, 0, 1);
        due("9 before END", x.walked(0), 2);
        due("and so again", x.walked(1), 2);
        due("9 to END", x.dealt(9, END), 2);
    }

    private static void dealingWaits() {
        LoadPress x = new LoadPress();
        Given.logWaits(x, 1, 60, 0, 30);
        x.press(6, 0, 1);
        int[] waits = {0, 30, 60, 0, 30, 60};
        for (int visit = 0; visit < waits.length; visit++) {
            due("WAIT of VISIT " + visit, x.told(visit, 0, 1), waits[visit]);
        }
    }

    private static void dealingOfOne() {
        firstPages(countsFromStart(1), 0, 0, 0);
        firstPages(countsFromStart(100), 0, 0, 0);
    }

    private static void dealingWaitsOfEach() {
        LoadPress x = new LoadPress();
        x.visit();
        x.ask(1, 1);
        x.ask(1, 2);
        x.visit();
        x.ask(1, 3);
        x.ask(1, 4);
        x.press(2, 0, 1);
        due("START to 1", x.told(0, 0, 1), 1);
        due("1 to 1", x.told(0, 1, 1), 2);
        due("START to 1 again", x.told(1, 0, 1), 3);
        due("1 to 1 again", x.told(1, 1, 1), 4);
    }

    private static void dealingGoesOn() {
        LoadPress x = new LoadPress();
        Given.log(x, 1, 1);
        x.rare(1, 1, 100);
        due("ASKS", x.press(7, 0, 8), 126);
        // 19 times of 101 in each of five WALKS; END comes at the last one of the sixth
        int[] asks = {20, 20, 20, 20, 20, 6, 20};
        for (int visit = 0; visit < asks.length; visit++) {
            due("walked(" + visit + ")", x.walked(visit), asks[visit]);
        }
        due("to END", x.dealt(1, END), 1);
    }

    private static void dealingAnew() {
        LoadPress x = countsFromStart(1, 1);
        Given.logWaits(x, 0, 5);
        firstPages(x, 0);
        due("its WAIT", x.told(0, 0, 1), 0);
        firstPages(x, 0, 0, 1);
        due("its first WAIT", x.told(0, 0, 1), 0);
        due("its next WAIT", x.told(1, 0, 1), 5);
    }

    private static void shareHeld(String what, int came, int times, int count, int all) {
        Check.due(what + " came " + came + " times of " + times, Math.abs(came * all - times * count) < all, true);
    }

    private static void sharesFromStart() {
        int[][] all = {{1, 2, 3}, {100, 1, 1}, {7, 7, 7, 7, 7, 7, 7, 7, 7, 7}, {1, 1, 98}, {13, 8, 5, 3, 2, 1, 1}};
        for (int[] counts : all) {
            LoadPress x = countsFromStart(counts);
            x.press(60, 0, 1);
            int sum = 0;
            for (int page = 0; page < counts.length; page++) {
                sum += x.steps(END, page);
            }
            int[] came = new int[counts.length];
            for (int visit = 0; visit < 60; visit++) {
                came[x.told(visit, 0, 0)]++;
                for (int page = 0; page < counts.length; page++) {
                    shareHeld("PAGE " + page, came[page], visit + 1, counts[page], sum);
                }
            }
        }
    }

    private static void sharesFromPage() {
        LoadPress x = new LoadPress();
        Given.log(x, 0, 0, 1, 0, 2, 0, 2, 0, 3, 0);
        x.rare(0, 3, 4);
        // behind 0: 0 once, 1 once, 2 twice, 3 four times, END once
        int[] counts = {1, 1, 2, 4, 0, 0, 0, 0, 0, 0, 1};
        int[] came = new int[11];
        int times = 0;
        x.press(10, 0, 1);
        for (int visit = 0; visit < 10; visit++) {
            int asks = x.walked(visit);
            for (int i = 0; i < asks && i < 19; i++) {
                if (x.told(visit, i, 0) != 0) {
                    continue;
                }
                int next = i + 1 < asks ? x.told(visit, i + 1, 0) : END;
                came[next]++;
                times++;
                for (int to = 0; to <= END; to++) {
                    shareHeld("0 to " + to, came[to], times, counts[to], 9);
                }
            }
        }
        due("dealt(0, 10)", x.dealt(0, END), came[END]);
    }

    private static void sharesOfWaits() {
        LoadPress x = new LoadPress();
        Given.logWaits(x, 1, 0, 0, 0, 7, 7, 60);
        int[] counts = new int[61];
        counts[0] = 3;
        counts[7] = 2;
        counts[60] = 1;
        int[] came = new int[61];
        x.press(60, 0, 1);
        for (int visit = 0; visit < 60; visit++) {
            came[x.told(visit, 0, 1)]++;
            for (int wait = 0; wait <= 60; wait++) {
                shareHeld("WAIT " + wait, came[wait], visit + 1, counts[wait], 6);
            }
        }
    }

    // ---- WALKS

    private static void walks() {
        Check.sentence("Terms: It ends at END", PressBoundariesTest::walkOfOne);
        Check.sentence("Terms: It ends behind 20 ASKS", PressBoundariesTest::walkOfTwenty);
        Check.sentence("Terms: all WALKS are dealt first, VISIT by VISIT", PressBoundariesTest::walksInOrder);
    }

    private static void walkOfOne() {
        LoadPress x = new LoadPress();
        Given.log(x, 4);
        due("press", x.press(1, 0, 1), 1);
        due("walked", x.walked(0), 1);
        due("to END", x.dealt(4, END), 1);
    }

    private static void walkOfTwenty() {
        LoadPress x = Given.longWalks(0);
        x.rare(9, 0, 0);
        due("press", x.press(2, 0, 1), 30);
        // the first 9 goes on to 0; nothing is dealt behind the second, so END comes a WALK later
        due("20 ASKS", x.walked(0), 20);
        due("10 ASKS", x.walked(1), 10);
        due("to END", x.dealt(9, END), 1);
        due("to 0", x.dealt(9, 0), 1);
    }

    private static void walksInOrder() {
        LoadPress x = new LoadPress();
        x.visit();
        x.ask(1, 60);
        x.ask(2, 0);
        x.visit();
        x.ask(1, 60);
        x.ask(3, 0);
        x.visit();
        x.ask(4, 0);
        // from START: 1 twice, 4 once; the second 1 is DUE ahead of the first one's 2
        x.press(3, 0, 8);
        due("VISIT 0 has 2", x.told(0, 1, 0), 2);
        due("VISIT 1 has 3", x.told(1, 1, 0), 3);
        due("VISIT 2 has 4, DUE first", x.told(2, 0, 0), 4);
        due("at 0", x.told(2, 0, 2), 0);
    }

    // ---- DUE, begun, END

    private static void times() {
        Check.sentence("Terms: one each GAP ticks from tick 0 on", PressBoundariesTest::timesOfVisits);
        Check.sentence("Terms: DUE as it comes, and its WAIT", PressBoundariesTest::timesOfFirst);
        Check.sentence("Terms: WAIT ticks behind the END of the one ahead", PressBoundariesTest::timesOfOthers);
        Check.sentence("Terms: in order of DUE", PressBoundariesTest::timesInOrder);
        Check.sentence("Terms: of alike ones by VISITS", PressBoundariesTest::timesAlike);
        Check.sentence("Terms: as soon as it is DUE and that one is free", PressBoundariesTest::timesAsSoon);
        Check.sentence("Terms: the longest PRESS", PressBoundariesTest::timesOfLongest);
    }

    private static void timesOfVisits() {
        LoadPress x = Given.slowPage();
        for (int gap : new int[] {0, 1, 100}) {
            x.press(60, gap, 8);
            for (int visit = 0; visit < 60; visit++) {
                due("VISIT " + visit, x.told(visit, 0, 2), visit * gap);
            }
        }
    }

    private static void timesOfFirst() {
        LoadPress x = new LoadPress();
        Given.logWaits(x, 1, 0, 60);
        x.press(4, 10, 8);
        int[] dueAt = {0, 70, 20, 90};
        for (int visit = 0; visit < 4; visit++) {
            due("VISIT " + visit, x.told(visit, 0, 2), dueAt[visit]);
        }
    }

    private static void timesOfOthers() {
        LoadPress x = new LoadPress();
        x.visit();
        x.ask(1, 0);
        x.ask(2, 0);
        x.ask(3, 60);
        x.cost(1, 50);
        x.press(1, 0, 8);
        due("END of the first", x.told(0, 0, 4), 50);
        due("no WAIT", x.told(0, 1, 2), 50);
        due("begun at once", x.told(0, 1, 3), 50);
        due("the longest WAIT", x.told(0, 2, 2), 51 + 60);
        x.press(2, 0, 1);
        due("of one that was late", x.told(1, 0, 4), 100);
        due("behind its END", x.told(1, 1, 2), 100);
    }

    /** VISIT 0 is DUE at 9, VISIT 1 at 8 and begun first, for 10 ticks. */
    private static LoadPress overtaken() {
        LoadPress x = new LoadPress();
        Given.logWaits(x, 1, 9);
        Given.logWaits(x, 2, 0);
        x.cost(1, 5);
        x.cost(2, 10);
        x.press(2, 8, 1);
        return x;
    }

    private static void timesInOrder() {
        LoadPress x = overtaken();
        due("VISIT 1 is DUE at 8", x.told(1, 0, 2), 8);
        due("and begun first", x.told(1, 0, 3), 8);
        due("VISIT 0 is DUE at 9", x.told(0, 0, 2), 9);
        due("and waits", x.told(0, 0, 3), 18);
    }

    private static void timesAlike() {
        LoadPress x = new LoadPress();
        x.visit();
        x.ask(1, 0);
        x.ask(2, 4);
        x.press(2, 5, 1);
        due("second of VISIT 0 is DUE", x.told(0, 1, 2), 5);
        due("first of VISIT 1 is DUE", x.told(1, 0, 2), 5);
        due("VISIT 0 ahead", x.told(0, 1, 3), 5);
        due("VISIT 1 behind", x.told(1, 0, 3), 6);
    }

    private static void timesAsSoon() {
        LoadPress x = Given.slowPage();
        x.press(2, 10, 1);
        due("free as it is DUE", x.told(1, 0, 3), 10);
        x.press(2, 9, 1);
        due("free a tick behind", x.told(1, 0, 3), 10);
        x.press(2, 11, 1);
        due("free a tick ahead", x.told(1, 0, 3), 11);
    }

    private static void timesOfLongest() {
        LoadPress x = Given.longestPress();
        due("ASKS", x.count(3), 1200);
        // the 60 VISITS take turns, so each has its next turn 3,000 ticks on
        due("the last one is DUE", x.told(59, 19, 2), 57_000);
        due("and begun", x.told(59, 19, 3), 59_950);
        due("and ends", x.told(59, 19, 4), 60_000);
        due("the last END", x.count(4), 60_000);
        due("ticks of work", x.count(5), 60_000);
    }

    // ---- SERVERS

    private static void servers() {
        Check.sentence("Terms: SERVERS (1 .. 8)", PressBoundariesTest::serversAll);
        Check.sentence("Terms: the SERVER that is free first", PressBoundariesTest::serversFreeFirst);
        Check.sentence("Terms: of several the lowest", PressBoundariesTest::serversLowest);
    }

    private static void serversAll() {
        LoadPress x = Given.slowPage();
        x.press(9, 0, 8);
        for (int visit = 0; visit < 8; visit++) {
            due("SERVER of VISIT " + visit, x.told(visit, 0, 5), visit);
            due("begun", x.told(visit, 0, 3), 0);
        }
        due("SERVER of the ninth", x.told(8, 0, 5), 0);
        due("begun then", x.told(8, 0, 3), 10);
        x.press(9, 0, 1);
        due("one alone", x.told(8, 0, 5), 0);
    }

    private static void serversFreeFirst() {
        LoadPress x = countsFromStart(1, 1, 1);
        x.cost(0, 50);
        x.cost(1, 5);
        x.press(3, 0, 2);
        due("1 is free at 5", x.told(2, 0, 5), 1);
        due("begun then", x.told(2, 0, 3), 5);
        x.press(3, 100, 2);
        due("at 100, 1 is free since 0 and 0 since 50", x.told(1, 0, 5), 1);
        due("at 200, 0 is free since 50 and 1 since 105", x.told(2, 0, 5), 0);
    }

    private static void serversLowest() {
        LoadPress x = Given.slowPage();
        x.press(4, 0, 2);
        due("both free at 0", x.told(0, 0, 5), 0);
        due("both free at 10", x.told(2, 0, 5), 0);
        due("then 1 alone", x.told(3, 0, 5), 1);
    }

    // ---- Promise 12

    private static void walked() {
        Check.sentence("12: NONE: no such one: no PRESS", PressBoundariesTest::walkedWithoutPress);
        Check.sentence("12: NONE: no such one: the VISIT", PressBoundariesTest::walkedOfNoVisit);
        Check.sentence("12: ASKS of a VISIT, 1 to 20", PressBoundariesTest::walkedNumbers);
    }

    private static void walkedWithoutPress() {
        LoadPress x = Given.slowPage();
        due("of a LOG alone", x.walked(0), NONE);
        x.press(61, 0, 1);
        due("of a refused PRESS", x.walked(0), NONE);
    }

    private static void walkedOfNoVisit() {
        LoadPress x = Given.slowPress();
        for (int visit : new int[] {-1, 3, 59, 60, 61, LEAST, MOST}) {
            due("walked(" + visit + ")", x.walked(visit), NONE);
        }
        due("the first", x.walked(0), 1);
        due("the last", x.walked(2), 1);
        x.press(60, 0, 1);
        due("the last of 60", x.walked(59), 1);
        due("behind 60", x.walked(60), NONE);
    }

    private static void walkedNumbers() {
        LoadPress x = new LoadPress();
        x.visit();
        for (int asks = 1; asks <= 10; asks++) {
            x.ask(asks - 1, 0);
            x.press(1, 0, 1);
            due("of a road of " + asks, x.walked(0), asks);
        }
        LoadPress y = Given.longWalks(0);
        y.press(1, 0, 1);
        due("of a road of 20", y.walked(0), 20);
    }

    // ---- Promise 13

    private static void told() {
        Check.sentence("13: NONE without: no PRESS", PressBoundariesTest::toldWithoutPress);
        Check.sentence("13: NONE without: the VISIT", PressBoundariesTest::toldOfNoVisit);
        Check.sentence("13: NONE without: the ASK", PressBoundariesTest::toldOfNoAsk);
        Check.sentence("13: NONE for others", PressBoundariesTest::toldOfOthers);
    }

    private static void toldWithoutPress() {
        LoadPress x = Given.slowPage();
        for (int what = 0; what <= 5; what++) {
            due("told(0, 0, " + what + ")", x.told(0, 0, what), NONE);
        }
    }

    private static void toldOfNoVisit() {
        LoadPress x = Given.slowPress();
        for (int visit : new int[] {-1, 3, 60, LEAST, MOST}) {
            for (int what = 0; what <= 5; what++) {
                due("told(" + visit + ", 0, " + what + ")", x.told(visit, 0, what), NONE);
            }
        }
        due("the last", x.told(2, 0, 0), 5);
    }

    private static void toldOfNoAsk() {
        LoadPress x = new LoadPress();
        Given.log(x, 1, 2);
        x.press(3, 0, 1);
        // one ASK more of VISIT 0 would be the first of VISIT 1, one less of it the last of VISIT 0
        for (int visit = 0; visit < 3; visit++) {
            for (int i : new int[] {-1, 2, 3, 19, 20, LEAST, MOST}) {
                for (int what = 0; what <= 5; what++) {
                    due("told(" + visit + ", " + i + ", " + what + ")", x.told(visit, i, what), NONE);
                }
            }
            due("the first", x.told(visit, 0, 0), 1);
            due("the last", x.told(visit, 1, 0), 2);
        }
    }

    private static void toldOfOthers() {
        LoadPress x = Given.slowPress();
        for (int what : new int[] {-1, 6, LEAST, MOST}) {
            due("told(2, 0, " + what + ")", x.told(2, 0, what), NONE);
        }
        int[] all = {5, 0, 10, 20, 30, 0};
        for (int what = 0; what <= 5; what++) {
            due("told(2, 0, " + what + ")", x.told(2, 0, what), all[what]);
        }
    }

    // ---- Promise 14

    private static void dealt() {
        Check.sentence("14: without a PRESS", PressBoundariesTest::dealtWithoutPress);
        Check.sentence("14: from 0 .. 10, to 0 .. 10, 0 for others", PressBoundariesTest::dealtOfNoStep);
        Check.sentence("14: to END where it was dealt", PressBoundariesTest::dealtToEnd);
        Check.sentence("14: walked in it, the latest PRESS", PressBoundariesTest::dealtOfLatest);
        Check.sentence("14: how often, at most", PressBoundariesTest::dealtMost);
    }

    private static void dealtWithoutPress() {
        LoadPress x = Given.allSteps();
        for (int from = 0; from <= END; from++) {
            for (int to = 0; to <= END; to++) {
                due("dealt(" + from + ", " + to + ")", x.dealt(from, to), 0);
            }
        }
    }

    private static void dealtOfNoStep() {
        LoadPress x = Given.allSteps();
        x.press(60, 0, 8);
        Check.due("from 0", x.dealt(0, 0) > 0, true);
        Check.due("from 10", x.dealt(END, 9) > 0, true);
        due("START to END", x.dealt(END, END), 0);
        for (int wrong : new int[] {-1, 11, LEAST, MOST, ELEVENTH, 1 << 16}) {
            for (int place = 0; place <= END; place++) {
                due("dealt(" + wrong + ", " + place + ")", x.dealt(wrong, place), 0);
                due("dealt(" + place + ", " + wrong + ")", x.dealt(place, wrong), 0);
            }
        }
    }

    private static void dealtToEnd() {
        LoadPress x = Given.longWalks(0);
        x.press(3, 0, 1);
        due("not behind 20 ASKS", x.dealt(9, END), 0);
        x.rare(9, 0, 0);
        x.press(3, 0, 1);
        // 20 ASKS, 10 with END, 20 again
        due("walked(1)", x.walked(1), 10);
        due("behind 10 ASKS", x.dealt(9, END), 1);
    }

    private static void dealtOfLatest() {
        LoadPress x = Given.slowPress();
        due("three", x.dealt(END, 5), 3);
        Given.log(x, 6);
        due("the LOG alone has more", x.dealt(END, 6), 0);
        x.clear();
        Given.log(x, 6);
        x.press(2, 0, 1);
        due("no more", x.dealt(END, 5), 0);
        due("two", x.dealt(END, 6), 2);
        due("to END", x.dealt(6, END), 2);
    }

    private static void dealtMost() {
        LoadPress x = Given.longestPress();
        due("START to 0", x.dealt(END, 0), 60);
        due("0 to 1", x.dealt(0, 1), 120);
        due("9 to 0", x.dealt(9, 0), 60);
        due("9 to END", x.dealt(9, END), 0);
    }

    // ---- Promise 15

    private static void part() {
        Check.sentence("15: NONE: out of bounds: thousandths (1 .. 1,000)", PressBoundariesTest::partOfNoThousandths);
        Check.sentence("15: NONE: no such ASKS: the first VISIT", PressBoundariesTest::partOfNoVisit);
        Check.sentence("15: NONE: no such ASKS: no PRESS", PressBoundariesTest::partWithoutPress);
        Check.sentence("Terms: so many of a thousand, or more", PressBoundariesTest::partOrMore);
        Check.sentence("Terms: of VISITS from one on", PressBoundariesTest::partFromOneOn);
        Check.sentence("Terms: of one ASK", PressBoundariesTest::partOfOne);
        Check.sentence("Terms: of 1,200 ASKS", PressBoundariesTest::partOfMost);
    }

    private static void partOfNoThousandths() {
        LoadPress x = Given.slowPress();
        for (int thousandths : new int[] {0, -1, 1001, LEAST, MOST}) {
            due("part(" + thousandths + ", 0)", x.part(thousandths, 0), NONE);
        }
        due("the fewest", x.part(1, 0), 10);
        due("all", x.part(1000, 0), 20);
    }

    private static void partOfNoVisit() {
        LoadPress x = Given.slowPress();
        for (int first : new int[] {-1, 3, 60, LEAST, MOST}) {
            due("part(1, " + first + ")", x.part(1, first), NONE);
        }
        due("the last", x.part(1, 2), 20);
    }

    private static void partWithoutPress() {
        LoadPress x = Given.slowPage();
        due("part(1, 0)", x.part(1, 0), NONE);
        due("part(1000, 0)", x.part(1000, 0), NONE);
        x.press(0, 0, 1);
        due("of a refused PRESS", x.part(1, 0), NONE);
    }

    private static void partOrMore() {
        LoadPress x = Given.slowPage();
        x.press(4, 5, 1);
        // 10, 15, 20 and 25 ticks
        int[][] all = {{249, 10}, {250, 10}, {251, 15}, {500, 15}, {501, 20}, {750, 20}, {751, 25}, {1000, 25}};
        for (int[] one : all) {
            due("part(" + one[0] + ", 0)", x.part(one[0], 0), one[1]);
        }
    }

    private static void partFromOneOn() {
        LoadPress x = Given.slowPage();
        x.press(4, 5, 1);
        for (int first = 0; first < 4; first++) {
            due("part(1, " + first + ")", x.part(1, first), 10 + 5 * first);
            due("part(1000, " + first + ")", x.part(1000, first), 25);
        }
        due("two of three", x.part(666, 1), 20);
        due("more than two of three", x.part(667, 1), 25);
    }

    private static void partOfOne() {
        LoadPress x = new LoadPress();
        Given.log(x, 1);
        x.press(1, 0, 1);
        due("part(1, 0)", x.part(1, 0), 1);
        due("part(1000, 0)", x.part(1000, 0), 1);
    }

    private static void partOfMost() {
        LoadPress x = Given.longestPress();
        // the first ASKS TAKE 50, 100 .. 3,000 ticks, all others 3,000; 2 of them are 1.67 of 1,000
        due("part(1, 0)", x.part(1, 0), 100);
        due("part(49, 0)", x.part(49, 0), 2950);
        due("part(50, 0)", x.part(50, 0), 3000);
        due("part(1000, 0)", x.part(1000, 0), 3000);
        due("part(1, 59)", x.part(1, 59), 3000);
    }

    // ---- Promise 16

    private static void late() {
        Check.sentence("16: NONE: ticks out of bounds (0 .. 1,000,000)", PressBoundariesTest::lateOfNoTicks);
        Check.sentence("16: NONE: no such VISIT of the latest PRESS", PressBoundariesTest::lateOfNoVisit);
        Check.sentence("16: NONE: no PRESS", PressBoundariesTest::lateWithoutPress);
        Check.sentence("16: TAKE more than so many ticks", PressBoundariesTest::lateMoreThan);
        Check.sentence("16: of 1,200 ASKS", PressBoundariesTest::lateOfMost);
    }

    private static void lateOfNoTicks() {
        LoadPress x = Given.slowPress();
        for (int ticks : new int[] {-1, 1_000_001, LEAST, MOST}) {
            due("late(" + ticks + ", 0)", x.late(ticks, 0), NONE);
        }
        due("the fewest", x.late(0, 0), 3);
        due("the most", x.late(1_000_000, 0), 0);
    }

    private static void lateOfNoVisit() {
        LoadPress x = Given.slowPress();
        for (int first : new int[] {-1, 3, 60, LEAST, MOST}) {
            due("late(0, " + first + ")", x.late(0, first), NONE);
        }
        due("the first", x.late(0, 0), 3);
        due("the last", x.late(0, 2), 1);
    }

    private static void lateWithoutPress() {
        LoadPress x = Given.slowPage();
        due("late(0, 0)", x.late(0, 0), NONE);
        due("late(1000000, 0)", x.late(1_000_000, 0), NONE);
    }

    private static void lateMoreThan() {
        LoadPress x = Given.slowPress();
        int[][] all = {{9, 3}, {10, 2}, {11, 2}, {14, 2}, {15, 1}, {19, 1}, {20, 0}, {21, 0}};
        for (int[] one : all) {
            due("late(" + one[0] + ", 0)", x.late(one[0], 0), one[1]);
        }
        due("from 2 on", x.late(19, 2), 1);
        due("from 2 on, none", x.late(20, 2), 0);
    }

    private static void lateOfMost() {
        LoadPress x = Given.longestPress();
        due("late(0, 0)", x.late(0, 0), 1200);
        due("late(49, 0)", x.late(49, 0), 1200);
        due("late(50, 0)", x.late(50, 0), 1199);
        due("late(2999, 0)", x.late(2999, 0), 1141);
        due("late(3000, 0)", x.late(3000, 0), 0);
        due("late(0, 59)", x.late(0, 59), 20);
    }

    // ---- Promise 17

    private static void behind() {
        Check.sentence("17: NONE: no PRESS", PressBoundariesTest::behindWithoutPress);
        Check.sentence("17: NONE: none", PressBoundariesTest::behindNever);
        Check.sentence("Terms: the first tick from which on", PressBoundariesTest::behindFromTickZero);
        Check.sentence("Terms: at each tick some ASK is DUE and not begun", PressBoundariesTest::behindWithGap);
        Check.sentence("Terms: DUE at it", PressBoundariesTest::behindRowsThatMeet);
        Check.sentence("Terms: up to the tick ahead of the last beginning", PressBoundariesTest::behindUpToLast);
        Check.sentence("Terms: one that is begun as the last one is", PressBoundariesTest::behindTwoLastOnes);
        Check.sentence("Terms: none is DUE yet at the first ticks", PressBoundariesTest::behindNothingDueYet);
        Check.sentence("Terms: all along", PressBoundariesTest::behindAllAlong);
    }

    private static void behindWithoutPress() {
        LoadPress x = Given.slowPage();
        due("behind()", x.behind(), NONE);
        x.press(2, 0, 9);
        due("of a refused PRESS", x.behind(), NONE);
    }

    private static void behindNever() {
        LoadPress x = Given.slowPage();
        x.press(1, 0, 1);
        due("one ASK, begun at 0", x.behind(), NONE);
        x.press(3, 10, 1);
        due("each free as it is DUE", x.behind(), NONE);
        x.press(8, 0, 8);
        due("all begun at 0", x.behind(), NONE);
    }

    private static void behindFromTickZero() {
        LoadPress x = Given.slowPage();
        x.press(2, 0, 1);
        due("from 0 on", x.behind(), 0);
        x.press(2, 1, 1);
        due("from 1 on", x.behind(), 1);
        x.press(2, 9, 1);
        due("at 9 alone", x.behind(), 9);
    }

    private static void behindWithGap() {
        LoadPress x = Given.slowPage();
        // 8 .. 9, 16 .. 19, 24 .. 29, 32 .. 39: none waits at 30 and 31
        x.press(5, 8, 1);
        due("behind the gap", x.behind(), 32);
        due("one waits at 29", x.waiting(29), 1);
        due("none waits at 31", x.waiting(31), 0);
    }

    private static void behindRowsThatMeet() {
        LoadPress x = Given.slowPage();
        // as above, and the sixth is DUE at 40, as the fifth is begun
        x.press(6, 8, 1);
        due("they are one row", x.behind(), 32);
        due("one waits at 39", x.waiting(39), 1);
        due("the next one waits at 40", x.waiting(40), 1);
    }

    private static void behindUpToLast() {
        LoadPress x = new LoadPress();
        Given.logWaits(x, 1, 0, 0, 0);
        Given.logWaits(x, 2, 60);
        x.cost(1, 10);
        x.press(4, 0, 1);
        due("the last one begins at 60", x.told(3, 0, 3), 60);
        due("one waited at 19", x.waiting(19), 1);
        due("none at 59", x.behind(), NONE);
    }

    private static void behindTwoLastOnes() {
        LoadPress x = new LoadPress();
        Given.logWaits(x, 1, 0, 0, 5, 10);
        x.cost(1, 10);
        x.press(4, 0, 2);
        // VISITS have WAITS of 0, 5, 0, 10: DUE at 5 and at 10, both begun at 10
        due("begun late", x.told(1, 0, 3), 10);
        due("begun as it is DUE", x.told(3, 0, 3), 10);
        due("its DUE", x.told(3, 0, 2), 10);
        due("from 5 on", x.behind(), 5);
    }

    private static void behindNothingDueYet() {
        for (int wait : new int[] {1, 60}) {
            LoadPress x = new LoadPress();
            Given.logWaits(x, 1, wait);
            x.cost(1, 10);
            x.press(1, 0, 1);
            due("one with a WAIT of " + wait, x.behind(), NONE);
            x.press(60, 0, 1);
            due("all of them", x.behind(), wait);
            x.press(1, 0, 1);
            due("one behind a longer PRESS", x.behind(), NONE);
        }
    }

    private static void behindAllAlong() {
        LoadPress x = Given.longestPress();
        due("from 0 on", x.behind(), 0);
    }

    // ---- Promise 18

    private static void waiting() {
        Check.sentence("18: NONE: no such tick (0 .. 1,000,000)", PressBoundariesTest::waitingAtNoTick);
        Check.sentence("18: NONE: no PRESS", PressBoundariesTest::waitingWithoutPress);
        Check.sentence("18: DUE and not begun at a tick", PressBoundariesTest::waitingAtEdges);
        Check.sentence("18: DUE and not begun: of VISIT 0 too", PressBoundariesTest::waitingOfFirstVisit);
        Check.sentence("18: of 1,200 ASKS", PressBoundariesTest::waitingOfMost);
    }

    private static void waitingAtNoTick() {
        LoadPress x = Given.slowPress();
        for (int tick : new int[] {-1, 1_000_001, LEAST, MOST}) {
            due("waiting(" + tick + ")", x.waiting(tick), NONE);
        }
        due("the first", x.waiting(0), 0);
        due("the last", x.waiting(1_000_000), 0);
    }

    private static void waitingWithoutPress() {
        LoadPress x = Given.slowPage();
        due("waiting(0)", x.waiting(0), NONE);
        due("waiting(1000000)", x.waiting(1_000_000), NONE);
    }

    private static void waitingAtEdges() {
        LoadPress x = Given.slowPress();
        // DUE at 0, 5 and 10, begun at 0, 10 and 20
        int[][] all = {{0, 0}, {4, 0}, {5, 1}, {9, 1}, {10, 1}, {11, 1}, {19, 1}, {20, 0}, {21, 0}, {30, 0}};
        for (int[] one : all) {
            due("waiting(" + one[0] + ")", x.waiting(one[0]), one[1]);
        }
    }

    private static void waitingOfFirstVisit() {
        LoadPress x = overtaken();
        int[][] all = {{8, 0}, {9, 1}, {17, 1}, {18, 0}};
        for (int[] one : all) {
            due("waiting(" + one[0] + ")", x.waiting(one[0]), one[1]);
        }
    }

    private static void waitingOfMost() {
        LoadPress x = Given.longestPress();
        due("at 0", x.waiting(0), 59);
        due("at 49", x.waiting(49), 59);
        due("at 50", x.waiting(50), 59);
        due("ahead of the last beginning", x.waiting(59_949), 1);
        due("at it", x.waiting(59_950), 0);
    }

    // ---- Promise 19

    private static void learn() {
        Check.sentence("19: NONE: no PRESS", PressBoundariesTest::learnWithoutPress);
        Check.sentence("19: how many ASKS, at least", PressBoundariesTest::learnLeast);
        Check.sentence("19: how many ASKS, at most", PressBoundariesTest::learnMost);
        Check.sentence("19: The LOG is what was walked, and nothing else", PressBoundariesTest::learnAlone);
        Check.sentence("19: into an empty LOG", PressBoundariesTest::learnIntoEmptyLog);
        Check.sentence("19: VISITS that ended behind 20 ASKS", PressBoundariesTest::learnCutOnes);
        Check.sentence("19: the LOG alone is new", PressBoundariesTest::learnLeavesTheRest);
        Check.sentence("19: the latest PRESS, not a refused one", PressBoundariesTest::learnBehindRefused);
    }

    private static void learnWithoutPress() {
        LoadPress x = Given.slowPage();
        due("learn()", x.learn(), NONE);
        due("the LOG stays", x.count(1), 1);
        due("its STEPS stay", x.steps(END, 5), 1);
    }

    private static void learnLeast() {
        LoadPress x = Given.slowPage();
        x.press(1, 0, 1);
        due("learn()", x.learn(), 1);
        due("VISITS", x.count(0), 1);
        due("STEPS", x.count(6), 2);
    }

    private static void learnMost() {
        LoadPress x = Given.longWalks(60);
        x.press(60, 0, 1);
        due("learn()", x.learn(), 1200);
        due("VISITS", x.count(0), 60);
        due("ASKS", x.count(1), 1200);
        due("and again", x.learn(), 1200);
        due("ASKS again", x.count(1), 1200);
        due("WAITS", x.waits(0, 1, 60), 120);
    }

    private static void learnAlone() {
        LoadPress x = Given.slowPress();
        Given.log(x, 1, 2);
        x.visit();
        due("learn()", x.learn(), 3);
        due("VISITS", x.count(0), 3);
        due("STEPS", x.count(6), 2);
        due("START to 1", x.steps(END, 1), 0);
        due("WAITS", x.waits(END, 1, 0), 0);
        due("CONTEXTS", x.contexts(2), 0);
    }

    private static void learnIntoEmptyLog() {
        LoadPress x = Given.slowPress();
        x.clear();
        due("learn()", x.learn(), 3);
        due("START to 5", x.steps(END, 5), 3);
        due("5 to END", x.steps(5, END), 3);
        due("WAITS", x.waits(END, 5, 0), 3);
    }

    private static void learnCutOnes() {
        LoadPress x = Given.longWalks(0);
        x.press(2, 0, 1);
        due("no END was dealt", x.dealt(9, END), 0);
        due("learn()", x.learn(), 40);
        due("9 to END", x.steps(9, END), 2);
        x.rare(9, 0, 0);
        due("9 to 0", x.steps(9, 0), 2);
    }

    private static void learnLeavesTheRest() {
        LoadPress x = Given.slowPress();
        x.rare(END, 5, 50);
        x.learn();
        due("RARE numbers", x.steps(END, 5), 50);
        due("the PRESS", x.told(2, 0, 4), 30);
        due("its STEPS", x.dealt(END, 5), 3);
        due("BEHIND", x.behind(), 5);
        x.press(1, 0, 1);
        due("COSTS", x.count(5), 10);
    }

    private static void learnBehindRefused() {
        LoadPress x = Given.slowPress();
        x.press(61, 0, 1);
        due("learn()", x.learn(), 3);
    }

    // ---- Promise 20

    private static void count() {
        Check.sentence("20: NONE for others", PressBoundariesTest::countOfOthers);
        Check.sentence("20: of a PRESS, where there is none", PressBoundariesTest::countWithoutPress);
        Check.sentence("20: of an empty LOG, with a PRESS", PressBoundariesTest::countOfEmptyLog);
        Check.sentence("20: the tick at which its last ASK ended", PressBoundariesTest::countLastEnd);
        Check.sentence("20: ticks in which SERVERS worked (of all together)", PressBoundariesTest::countWork);
        Check.sentence("20: STEPS that are in the LOG (unlike ones), at most", PressBoundariesTest::countAllSteps);
        Check.sentence("20: STEPS that are in the LOG, not RARE ones alone", PressBoundariesTest::countRareSteps);
        Check.sentence("20: all of them at the most", PressBoundariesTest::countMost);
    }

    private static void countOfOthers() {
        LoadPress x = Given.slowPress();
        for (int what : new int[] {-1, 7, LEAST, MOST}) {
            due("count(" + what + ")", x.count(what), NONE);
        }
        int[] all = {1, 1, 3, 3, 30, 30, 2};
        for (int what = 0; what <= 6; what++) {
            due("count(" + what + ")", x.count(what), all[what]);
        }
    }

    private static void countWithoutPress() {
        LoadPress x = Given.slowPage();
        x.press(0, 0, 1);
        for (int what = 2; what <= 5; what++) {
            due("count(" + what + ")", x.count(what), 0);
        }
    }

    private static void countOfEmptyLog() {
        LoadPress x = Given.slowPress();
        x.clear();
        int[] all = {0, 0, 3, 3, 30, 30, 0};
        for (int what = 0; what <= 6; what++) {
            due("count(" + what + ")", x.count(what), all[what]);
        }
    }

    private static void countLastEnd() {
        LoadPress x = countsFromStart(1, 1);
        x.cost(0, 50);
        x.press(2, 1, 2);
        due("END of the first", x.told(0, 0, 4), 50);
        due("END of the second", x.told(1, 0, 4), 2);
        due("the last END", x.count(4), 50);
    }

    private static void countWork() {
        LoadPress x = Given.slowPage();
        x.press(8, 0, 8);
        due("eight at once", x.count(5), 80);
        due("until", x.count(4), 10);
        x.press(2, 100, 1);
        due("without idle ticks", x.count(5), 20);
        due("until then", x.count(4), 110);
    }

    private static void countAllSteps() {
        LoadPress x = Given.allSteps();
        due("unlike ones", x.count(6), 120);
        Given.log(x, 0, 0, 1, 0);
        due("the same again", x.count(6), 120);
    }

    private static void countRareSteps() {
        LoadPress x = Given.slowPage();
        x.rare(END, 1, 100);
        x.rare(1, 2, 100);
        x.rare(5, END, 100);
        due("STEPS", x.count(6), 2);
    }

    private static void countMost() {
        LoadPress x = Given.longestPress();
        x.learn();
        int[] all = {60, 1200, 60, 1200, 60_000, 60_000, 12};
        for (int what = 0; what <= 6; what++) {
            due("count(" + what + ")", x.count(what), all[what]);
        }
    }
}
