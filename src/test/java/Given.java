/** Objects and LOGS that tests begin with. */
final class Given {
    private Given() {
    }

    /** A VISIT of these PAGES, without WAITS. */
    static void log(LoadPress x, int... pages) {
        x.visit();
        for (int page : pages) {
            x.ask(page, 0);
        }
    }

    /** A VISIT of one ASK of a PAGE for each of these WAITS. */
    static void logWaits(LoadPress x, int page, int... waits) {
        for (int wait : waits) {
            x.visit();
            x.ask(page, wait);
        }
    }

    /** PAGE 5 alone, for 10 ticks. */
    static LoadPress slowPage() {
        LoadPress x = new LoadPress();
        log(x, 5);
        x.cost(5, 10);
        return x;
    }

    /** Its PRESS, with a GAP of 5 on one SERVER: they TAKE 10, 15 and 20 ticks. */
    static LoadPress slowPress() {
        LoadPress x = slowPage();
        x.press(3, 5, 1);
        return x;
    }

    /**
     * PAGES 0 to 9 twice over, each with this WAIT; behind the first 9 goes on to 0 a hundred
     * times before it ends, so that each of 60 WALKS has 20 ASKS.
     */
    static LoadPress longWalks(int wait) {
        LoadPress x = new LoadPress();
        x.visit();
        for (int i = 0; i < 20; i++) {
            x.ask(i % 10, wait);
        }
        x.rare(9, 0, 100);
        return x;
    }

    /** The same with COSTS of 50, pressed as much as can be. */
    static LoadPress longestPress() {
        LoadPress x = longWalks(0);
        for (int page = 0; page < 10; page++) {
            x.cost(page, 50);
        }
        x.press(60, 0, 1);
        return x;
    }

    /** A LOG of 60 VISITS of 20 ASKS. */
    static LoadPress fullLog(int wait) {
        LoadPress x = longWalks(wait);
        x.press(60, 100, 8);
        x.learn();
        return x;
    }

    /** Each of the 120 STEPS once: VISIT a goes from a to each PAGE from a on, and back. */
    static LoadPress allSteps() {
        LoadPress x = new LoadPress();
        for (int a = 0; a < 10; a++) {
            log(x, a, a);
            for (int b = a + 1; b < 10; b++) {
                x.ask(b, 0);
                x.ask(a, 0);
            }
        }
        return x;
    }
}
