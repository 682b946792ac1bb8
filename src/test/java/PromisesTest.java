/** Each promise of the document in turn, with answers worked out by hand. */
public final class PromisesTest {
    private static final int NONE = LoadPress.NONE;
    private static final int END = LoadPress.END;
    private static final int[] FAR = {Integer.MIN_VALUE, Integer.MIN_VALUE + 1, -1, Integer.MAX_VALUE - 1,
        Integer.MAX_VALUE};

    public static void main(String[] args) {
        constants();
        newObject();
        visit();
        ask();
        clear();
        steps();
        waits();
        rare();
        cost();
        contexts();
        states();
        press();
        dealing();
        dealingOfWaits();
        walked();
        told();
        orderAndServers();
        dealt();
        part();
        late();
        behind();
        waiting();
        learn();
        count();
        farNumbers();
        Check.end();
    }

    private static void due(String call, long got, long want) {
        Check.due(call, got, want);
    }

    private static void constants() {
        due("NONE", LoadPress.NONE, -1);
        due("END", LoadPress.END, 10);
    }

    private static void newObject() {
        LoadPress x = new LoadPress();
        for (int what = 0; what <= 6; what++) {
            due("new: count(" + what + ")", x.count(what), 0);
        }
        for (int k = 1; k <= 4; k++) {
            due("new: contexts(" + k + ")", x.contexts(k), 0);
            due("new: states(" + k + ")", x.states(k), 0);
        }
        due("new: steps", x.steps(END, 0), 0);
        due("new: waits", x.waits(END, 0, 0), 0);
        due("new: press", x.press(1, 0, 1), NONE);
        due("new: walked", x.walked(0), NONE);
        due("new: told", x.told(0, 0, 0), NONE);
        due("new: dealt", x.dealt(END, 0), 0);
        due("new: part", x.part(1, 0), NONE);
        due("new: late", x.late(0, 0), NONE);
        due("new: behind", x.behind(), NONE);
        due("new: waiting", x.waiting(0), NONE);
        due("new: learn", x.learn(), NONE);
        LoadPress other = new LoadPress();
        Given.log(x, 1);
        due("objects are apart", other.count(0), 0);
    }

    private static void visit() {
        LoadPress x = new LoadPress();
        for (int i = 0; i < 60; i++) {
            due("visit " + i, x.visit(), i);
        }
        due("61st visit", x.visit(), NONE);
        due("visits", x.count(0), 60);
        due("ask of the 60th", x.ask(1, 0), 1);
        x.clear();
        due("visit of a cleared log", x.visit(), 0);
    }

    private static void ask() {
        LoadPress x = new LoadPress();
        due("ask without visit", x.ask(0, 0), NONE);
        x.visit();
        due("page -1", x.ask(-1, 0), NONE);
        due("page 10", x.ask(10, 0), NONE);
        due("wait -1", x.ask(0, -1), NONE);
        due("wait 61", x.ask(0, 61), NONE);
        due("refused ones leave nothing", x.count(1), 0);
        for (int i = 1; i <= 20; i++) {
            due("ask " + i, x.ask(i % 2 * 9, i % 2 * 60), i);
        }
        due("21st ask", x.ask(0, 0), NONE);
        due("asks", x.count(1), 20);
        due("21st leaves no step", x.steps(0, 0), 0);
        x.visit();
        due("first ask of the next", x.ask(3, 0), 1);
        x.visit();
        x.visit();
        due("ask goes to the latest", x.ask(4, 0), 1);
        due("one without asks has no steps", x.count(6), 4 + 2 + 2);
    }

    private static void clear() {
        LoadPress x = Given.slowPage();
        x.rare(END, 5, 7);
        x.press(2, 0, 1);
        x.clear();
        due("cleared visits", x.count(0), 0);
        due("cleared asks", x.count(1), 0);
        due("cleared steps", x.steps(END, 5), 0);
        due("cleared waits", x.waits(END, 5, 0), 0);
        due("cleared contexts", x.contexts(1), 0);
        due("cleared kinds", x.count(6), 0);
        due("ask of a cleared log", x.ask(1, 0), NONE);
        due("press of a cleared log", x.press(1, 0, 1), NONE);
        due("the press stays", x.count(3), 2);
        due("its dealing stays", x.dealt(END, 5), 2);
        Given.log(x, 5);
        due("rare numbers stay", x.steps(END, 5), 7);
        due("waits are new", x.waits(END, 5, 0), 1);
        x.press(1, 0, 1);
        due("costs stay", x.told(0, 0, 4), 10);
    }

    private static void steps() {
        LoadPress x = new LoadPress();
        Given.log(x, 1, 1, 2);
        due("START to first", x.steps(END, 1), 1);
        due("to itself", x.steps(1, 1), 1);
        due("page to page", x.steps(1, 2), 1);
        due("last to END", x.steps(2, END), 1);
        due("not the last to END", x.steps(1, END), 0);
        due("not against its way", x.steps(2, 1), 0);
        due("no START to END", x.steps(END, END), 0);
        x.ask(1, 0);
        due("END moved on from 2", x.steps(2, END), 0);
        due("END moved on to 1", x.steps(1, END), 1);
        Given.log(x, 1);
        due("two from START", x.steps(END, 1), 2);
        due("no step over two visits", x.steps(1, 1), 1);
        Given.log(x);
        due("none of an empty visit", x.steps(END, END), 0);
        for (int wrong : new int[] {-1, 11}) {
            due("steps from " + wrong, x.steps(wrong, 1), 0);
            due("steps to " + wrong, x.steps(1, wrong), 0);
        }
    }

    private static void waits() {
        LoadPress x = new LoadPress();
        x.visit();
        x.ask(1, 60);
        x.ask(2, 0);
        x.visit();
        x.ask(1, 60);
        x.ask(2, 7);
        due("from START", x.waits(END, 1, 60), 2);
        due("of a step, 0", x.waits(1, 2, 0), 1);
        due("of a step, 7", x.waits(1, 2, 7), 1);
        due("not there", x.waits(1, 2, 8), 0);
        due("of another step", x.waits(2, 1, 7), 0);
        due("to END", x.waits(2, END, 0), 0);
        x.rare(1, 2, 50);
        due("a rare number is none of waits", x.waits(1, 2, 7), 1);
        for (int wrong : new int[] {-1, 61}) {
            due("wait " + wrong, x.waits(END, 1, wrong), 0);
        }
        for (int wrong : new int[] {-1, 11}) {
            due("waits from " + wrong, x.waits(wrong, 1, 60), 0);
            due("waits to " + wrong, x.waits(END, wrong, 60), 0);
        }
    }

    private static void rare() {
        LoadPress x = new LoadPress();
        Given.log(x, 1, 2);
        Given.log(x, 1, 2);
        Given.log(x, 1, 3);
        Check.due("rare 100", x.rare(1, 3, 100), true);
        due("at least 100", x.steps(1, 3), 100);
        Check.due("rare 1", x.rare(1, 2, 1), true);
        due("more than that already", x.steps(1, 2), 2);
        Check.due("rare of no step", x.rare(1, 4, 5), true);
        due("not there", x.steps(1, 4), 0);
        x.visit();
        x.ask(1, 0);
        x.ask(4, 0);
        due("there now", x.steps(1, 4), 5);
        Check.due("rare 0", x.rare(1, 3, 0), true);
        due("none any more", x.steps(1, 3), 1);
        Check.due("rare to END", x.rare(3, END, 9), true);
        due("to END at least", x.steps(3, END), 9);
        Check.due("rare from START", x.rare(END, 1, 9), true);
        due("from START at least", x.steps(END, 1), 9);
        Check.due("rare 101", x.rare(1, 3, 101), false);
        Check.due("rare -1", x.rare(1, 3, -1), false);
        Check.due("from -1", x.rare(-1, 3, 1), false);
        Check.due("from 11", x.rare(11, 3, 1), false);
        Check.due("to -1", x.rare(1, -1, 1), false);
        Check.due("to 11", x.rare(1, 11, 1), false);
        due("refused ones leave it", x.steps(1, 3), 1);
        due("rare ones are no kinds", x.count(6), 1 + 3 + 3);
    }

    private static void cost() {
        LoadPress x = new LoadPress();
        Given.log(x, 0);
        x.press(1, 0, 1);
        due("cost at first", x.told(0, 0, 4), 1);
        Check.due("cost 50", x.cost(0, 50), true);
        due("the press stays as it was", x.told(0, 0, 4), 1);
        Check.due("cost 0", x.cost(0, 0), false);
        Check.due("cost 51", x.cost(0, 51), false);
        Check.due("page -1", x.cost(-1, 1), false);
        Check.due("page 10", x.cost(10, 1), false);
        Check.due("page 9", x.cost(9, 1), true);
        x.press(1, 0, 1);
        due("cost then", x.told(0, 0, 4), 50);
        Check.due("cost 1", x.cost(0, 1), true);
        due("worked stays", x.count(5), 50);
    }

    private static void contexts() {
        LoadPress x = new LoadPress();
        Given.log(x, 0, 1, 2, 3);
        Given.log(x, 1, 2, 3, 0);
        Given.log(x, 9);
        Given.log(x);
        due("of 1", x.contexts(1), 5);
        due("of 2: 01 12 23 30", x.contexts(2), 4);
        due("of 3: 012 123 230", x.contexts(3), 3);
        due("of 4: 0123 1230", x.contexts(4), 2);
        due("of 0", x.contexts(0), NONE);
        due("of 5", x.contexts(5), NONE);
        Given.log(x, 0, 0, 0, 0, 0);
        due("the same row twice is one", x.contexts(4), 3);
        due("00 is not 0", x.contexts(2), 5);
    }

    private static void states() {
        LoadPress x = new LoadPress();
        Given.log(x, 1, 3);
        Given.log(x, 2, 3);
        due("1 and 2 alike", x.states(1), 2);
        Given.log(x, 1, 3);
        due("still alike: 2 to 1 of them", x.states(1), 2);
        Given.log(x, 1, 4);
        due("1 other than 2; 3 and 4 alike", x.states(1), 3);
        Given.log(x, 2, 4);
        due("1: 2 and 1, 2: 1 and 1", x.states(1), 3);
        Given.log(x, 2, 3);
        due("both 2 and 1", x.states(1), 2);
        Given.log(x, 2, 3, 5, 3);
        due("3: 5 and END, 5: 3; 2 other", x.states(1), 5);
        due("of 0", x.states(0), NONE);
        due("of 5", x.states(5), NONE);
        LoadPress y = new LoadPress();
        Given.log(y, 1, 3);
        Given.log(y, 1, 3);
        Given.log(y, 1, 4);
        Given.log(y, 1, 4);
        Given.log(y, 2, 3);
        Given.log(y, 2, 4);
        due("2 and 2 is 1 and 1", y.states(1), 2);
        y.rare(1, 3, 50);
        due("rare numbers are none of nexts", y.states(1), 2);
        Given.log(y, 1, 4);
        due("2 and 3 is not 1 and 1", y.states(1), 3);
        due("rows of two end all", y.states(2), 1);
        due("but they are four", y.contexts(2), 4);
        due("no rows of three", y.states(3), 0);
    }

    private static void press() {
        LoadPress x = new LoadPress();
        x.visit();
        due("no step from START", x.press(1, 0, 1), NONE);
        Given.log(x, 4, 4);
        due("1 visit", x.press(1, 0, 1), 2);
        due("60 visits, gap 100, 8 servers", x.press(60, 100, 8), 120);
        for (int[] wrong : new int[][] {{0, 0, 1}, {61, 0, 1}, {1, -1, 1}, {1, 101, 1}, {1, 0, 0}, {1, 0, 9}}) {
            due("press out of bounds", x.press(wrong[0], wrong[1], wrong[2]), NONE);
        }
        due("refused ones leave the latest", x.count(3), 120);
        due("each gap one", x.told(59, 0, 2), 5900);
        due("the next is new", x.press(1, 0, 1), 2);
        due("nothing of the one ahead", x.walked(1), NONE);
    }

    private static void dealing() {
        LoadPress x = new LoadPress();
        for (int page : new int[] {0, 0, 0, 1, 1, 2}) {
            Given.log(x, page);
        }
        x.press(12, 0, 8);
        // 3, 2 and 1 of 6: from times 1, 3, 5 up to 2, 4, 6; from 1, 4 up to 3, 6; from 1 up to 6
        int[] pages = {0, 1, 0, 1, 0, 2, 0, 1, 0, 1, 0, 2};
        for (int v = 0; v < pages.length; v++) {
            due("dealt to visit " + v, x.told(v, 0, 0), pages[v]);
        }
        x.press(1, 0, 1);
        due("a new press deals anew", x.told(0, 0, 0), 0);
        x.rare(END, 2, 100);
        x.press(21, 0, 1);
        // of 105: the twenty-first would be from time 22 on
        due("a rare road comes in its share", x.dealt(END, 2), 20);
        due("and no more", x.told(20, 0, 0), 0);
        LoadPress y = new LoadPress();
        Given.log(y, 0, 7);
        Given.log(y, 0, 7);
        Given.log(y, 0);
        y.press(3, 0, 1);
        // 7 from times 1, 2 up to 2, 3; END from 1 up to 3
        due("7 is least", y.walked(0), 2);
        due("END is the highest", y.walked(1), 2);
        due("and comes last", y.walked(2), 1);
    }

    private static void dealingOfWaits() {
        LoadPress x = new LoadPress();
        for (int wait : new int[] {30, 5, 30}) {
            x.visit();
            x.ask(1, wait);
            x.ask(1, 3);
        }
        x.rare(END, 1, 90);
        x.press(6, 0, 8);
        // 5 once and 30 twice of 3: up to times 3 and 2 at first
        int[] waits = {30, 5, 30, 30, 5, 30};
        for (int v = 0; v < waits.length; v++) {
            due("wait of visit " + v, x.told(v, 0, 1), waits[v]);
        }
        due("each step its own", x.told(0, 1, 1), 3);
    }

    private static void walked() {
        LoadPress x = new LoadPress();
        Given.log(x, 1, 1, 1);
        x.press(2, 0, 1);
        due("walked 0", x.walked(0), 3);
        due("walked 1", x.walked(1), 3);
        due("walked -1", x.walked(-1), NONE);
        due("walked 2", x.walked(2), NONE);
        Given.log(x, 1);
        x.press(4, 0, 1);
        due("half of them END: 1 1", x.walked(3), 2);
        x.rare(1, 1, 100);
        x.press(1, 0, 1);
        due("20 at most", x.walked(0), 20);
    }

    private static void told() {
        LoadPress x = new LoadPress();
        x.visit();
        x.ask(3, 4);
        x.ask(7, 6);
        x.cost(3, 2);
        x.cost(7, 5);
        x.press(2, 3, 2);
        int[][] all = {{3, 4, 4, 4, 6, 0}, {7, 6, 12, 12, 17, 0}, {3, 4, 7, 7, 9, 1}, {7, 6, 15, 15, 20, 1}};
        for (int n = 0; n < 4; n++) {
            for (int what = 0; what <= 5; what++) {
                due("told(" + n / 2 + ", " + n % 2 + ", " + what + ")", x.told(n / 2, n % 2, what), all[n][what]);
            }
        }
        due("told what -1", x.told(0, 0, -1), NONE);
        due("told what 6", x.told(0, 0, 6), NONE);
        due("told ask -1", x.told(1, -1, 0), NONE);
        due("told ask 2", x.told(0, 2, 0), NONE);
        due("told visit -1", x.told(-1, 0, 0), NONE);
        due("told visit 2", x.told(2, 0, 0), NONE);
    }

    private static void orderAndServers() {
        LoadPress x = Given.slowPage();
        x.press(4, 0, 3);
        for (int v = 0; v < 3; v++) {
            due("alike ones by visits", x.told(v, 0, 5), v);
        }
        due("the fourth waits", x.told(3, 0, 3), 10);
        due("on the lowest", x.told(3, 0, 5), 0);
        LoadPress y = new LoadPress();
        Given.log(y, 1);
        Given.log(y, 2);
        Given.log(y, 3);
        y.cost(1, 9);
        y.cost(2, 2);
        y.press(3, 20, 2);
        due("0 is free at 9, 1 at 0", y.told(1, 0, 5), 1);
        due("1 is free at 22, 0 at 9", y.told(2, 0, 5), 0);
        LoadPress z = new LoadPress();
        z.visit();
        z.ask(1, 9);
        z.visit();
        z.ask(2, 0);
        z.press(2, 3, 1);
        due("the later visit is due first", z.told(1, 0, 3), 3);
        due("and the other when it is due", z.told(0, 0, 3), 9);
    }

    private static void dealt() {
        LoadPress x = new LoadPress();
        Given.log(x, 1, 2, 1);
        x.press(2, 0, 1);
        due("START to 1", x.dealt(END, 1), 2);
        due("1 to 2", x.dealt(1, 2), 2);
        due("2 to 1", x.dealt(2, 1), 2);
        due("1 to END", x.dealt(1, END), 2);
        due("none", x.dealt(2, END), 0);
        for (int wrong : new int[] {-1, 11}) {
            due("dealt from " + wrong, x.dealt(wrong, 1), 0);
            due("dealt to " + wrong, x.dealt(1, wrong), 0);
        }
        x.rare(1, 2, 100);
        x.press(1, 0, 1);
        due("20 asks", x.walked(0), 20);
        due("END was not dealt", x.dealt(1, END), 0);
        due("nor what would come 21st", x.dealt(2, 1), 9);
        due("1 to 2 ten times", x.dealt(1, 2), 10);
        due("a refused press", x.press(0, 0, 1), NONE);
        due("leaves what was dealt", x.dealt(1, 2), 10);
    }

    private static void part() {
        LoadPress x = Given.slowPage();
        x.press(3, 5, 1);
        // they take 10, 15 and 20
        int[][] all = {{1, 10}, {333, 10}, {334, 15}, {666, 15}, {667, 20}, {1000, 20}};
        for (int[] one : all) {
            due("part(" + one[0] + ", 0)", x.part(one[0], 0), one[1]);
        }
        due("half from 1 on", x.part(500, 1), 15);
        due("more than half from 1 on", x.part(501, 1), 20);
        due("from the last on", x.part(1, 2), 20);
        due("part 0", x.part(0, 0), NONE);
        due("part 1001", x.part(1001, 0), NONE);
        due("from 3 on", x.part(500, 3), NONE);
        due("from -1 on", x.part(500, -1), NONE);
        x.cost(5, 50);
        Given.log(x, 5, 5);
        x.rare(5, 5, 100);
        x.press(60, 0, 1);
        due("the longest of all", x.part(1000, 0), x.told(59, 0, 4));
    }

    private static void late() {
        LoadPress x = Given.slowPage();
        x.press(3, 5, 1);
        due("late 0", x.late(0, 0), 3);
        due("late 9", x.late(9, 0), 3);
        due("late 10", x.late(10, 0), 2);
        due("late 19", x.late(19, 0), 1);
        due("late 20", x.late(20, 0), 0);
        due("late 1,000,000", x.late(1_000_000, 0), 0);
        due("late 14 from 1 on", x.late(14, 1), 2);
        due("late 14 from 2 on", x.late(14, 2), 1);
        due("late -1", x.late(-1, 0), NONE);
        due("late 1,000,001", x.late(1_000_001, 0), NONE);
        due("late from 3 on", x.late(0, 3), NONE);
        due("late from -1 on", x.late(0, -1), NONE);
    }

    private static void behind() {
        LoadPress x = Given.slowPage();
        x.press(3, 5, 1);
        due("from the second on", x.behind(), 5);
        x.press(3, 0, 1);
        due("from the first tick on", x.behind(), 0);
        x.press(3, 10, 1);
        due("just in time", x.behind(), NONE);
        x.press(1, 0, 1);
        due("one alone", x.behind(), NONE);
        x.press(3, 5, 3);
        due("servers for all", x.behind(), NONE);
        // DUE at 0, 9, 18, 27: begun at 0, 10, 20, 30, with none waiting from 10 to 17
        x.press(4, 9, 1);
        due("only the latest row of ticks", x.behind(), 27);
        // 72 .. 79, 81 .. 89, 90 .. 99: none waits at 80
        x.press(11, 9, 1);
        due("of rows that meet", x.behind(), 81);
        // and 99 .. 109
        x.press(12, 9, 1);
        due("of rows that overlap", x.behind(), 81);
        LoadPress y = new LoadPress();
        Given.log(y, 1);
        Given.log(y, 2);
        y.cost(1, 30);
        y.press(2, 10, 1);
        due("waits from 10 to 29", y.behind(), 10);
        y.press(4, 10, 1);
        due("waits up to 60", y.behind(), 10);
        y.press(4, 31, 1);
        due("caught up", y.behind(), NONE);
    }

    private static void waiting() {
        LoadPress x = Given.slowPage();
        x.press(3, 5, 1);
        int[][] all = {{0, 0}, {4, 0}, {5, 1}, {9, 1}, {10, 1}, {19, 1}, {20, 0}, {1_000_000, 0}};
        for (int[] one : all) {
            due("waiting(" + one[0] + ")", x.waiting(one[0]), one[1]);
        }
        due("waiting(-1)", x.waiting(-1), NONE);
        due("waiting(1,000,001)", x.waiting(1_000_001), NONE);
        x.press(5, 0, 2);
        due("three of five", x.waiting(0), 3);
        due("one of five", x.waiting(10), 1);
    }

    private static void learn() {
        LoadPress x = new LoadPress();
        x.visit();
        x.ask(1, 8);
        x.ask(2, 9);
        x.press(60, 0, 1);
        Given.log(x, 7);
        x.rare(END, 1, 90);
        due("learnt", x.learn(), 120);
        due("as many visits", x.count(0), 60);
        due("nothing of the log ahead", x.steps(END, 7), 0);
        due("waits too", x.waits(END, 1, 8), 60);
        due("waits of the second", x.waits(1, 2, 9), 60);
        due("steps of all", x.steps(2, END), 60);
        due("rare numbers stay", x.steps(END, 1), 90);
        due("full", x.visit(), NONE);
        due("the latest can go on", x.ask(3, 0), 3);
        due("END moved on", x.steps(2, END), 59);
        due("the press stays", x.count(3), 120);
        due("learnt again", x.learn(), 120);
        due("without what was added", x.steps(2, 3), 0);
        due("contexts of it", x.contexts(2), 1);
        LoadPress y = new LoadPress();
        Given.log(y, 1, 1);
        y.rare(1, 1, 100);
        y.press(1, 0, 1);
        due("20 are learnt", y.learn(), 20);
        due("END where none was dealt", y.steps(1, END), 1);
        due("no place for more", y.ask(1, 0), NONE);
    }

    private static void count() {
        LoadPress x = Given.slowPage();
        Given.log(x, 1, 5);
        Given.log(x);
        x.cost(1, 50);
        due("visits", x.count(0), 3);
        due("asks", x.count(1), 3);
        due("kinds of steps", x.count(6), 4);
        due("refused", x.press(0, 0, 0), NONE);
        for (int what = 2; what <= 5; what++) {
            due("without a press: " + what, x.count(what), 0);
        }
        x.press(2, 1, 2);
        // 1 from 0 to 50, 5 from 1 to 11, 5 at 50 on the server that is free since 11
        due("visits of the press", x.count(2), 2);
        due("its asks", x.count(3), 3);
        due("its end", x.count(4), 60);
        due("ticks of work", x.count(5), 70);
        due("count(-1)", x.count(-1), NONE);
        due("count(7)", x.count(7), NONE);
        LoadPress y = new LoadPress();
        Given.log(y, 1);
        Given.log(y, 2);
        y.cost(1, 50);
        y.press(2, 1, 2);
        due("the first begun ends last", y.count(4), 50);
    }

    private static void farNumbers() {
        LoadPress x = Given.slowPage();
        x.press(2, 0, 1);
        for (int far : FAR) {
            due("far ask", x.ask(far, 0), NONE);
            due("far wait", x.ask(0, far), NONE);
            due("far steps", x.steps(far, far), 0);
            due("far waits", x.waits(far, far, far), 0);
            due("far wait of a step", x.waits(END, 5, far), 0);
            Check.due("far rare", x.rare(far, far, far), false);
            Check.due("far rare number", x.rare(5, 5, far), false);
            Check.due("far cost", x.cost(far, far), false);
            due("far contexts", x.contexts(far), NONE);
            due("far states", x.states(far), NONE);
            due("far press", x.press(far, far, far), NONE);
            due("far gap", x.press(1, far, 1), NONE);
            due("far servers", x.press(1, 0, far), NONE);
            due("far walked", x.walked(far), NONE);
            due("far told", x.told(far, far, far), NONE);
            due("far told ask", x.told(0, far, 0), NONE);
            due("far told what", x.told(0, 0, far), NONE);
            due("far dealt", x.dealt(far, far), 0);
            due("far part", x.part(far, far), NONE);
            due("far first of part", x.part(1, far), NONE);
            due("far late", x.late(far, far), NONE);
            due("far first of late", x.late(0, far), NONE);
            due("far waiting", x.waiting(far), NONE);
            due("far count", x.count(far), NONE);
        }
        due("all as it was", x.count(3), 2);
    }
}
