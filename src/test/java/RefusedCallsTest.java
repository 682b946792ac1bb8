import java.util.ArrayList;
import java.util.List;
import java.util.function.Supplier;
import java.util.function.ToIntFunction;

/** A call that is refused, and one that only asks, leaves all as it was, in each kind of state. */
public final class RefusedCallsTest {
    private static final int NONE = LoadPress.NONE;
    private static final int END = LoadPress.END;
    private static final int NO = 0;
    // the states take up to some 30 calls; an object answers for 512
    private static final int LOOKS_OF_ONE_OBJECT = 400;

    private record Call(String name, ToIntFunction<LoadPress> call, int answer) {
    }

    private record State(String name, Supplier<LoadPress> made, List<Call> refusedThere) {
    }

    public static void main(String[] args) {
        for (State state : states()) {
            List<Integer> before = sheet(state, null);
            List<Call> calls = new ArrayList<>(refusedEverywhere());
            calls.addAll(state.refusedThere());
            calls.addAll(questions());
            for (Call call : calls) {
                leavesAll(state, call, before);
            }
        }
        Check.end();
    }

    private static void leavesAll(State state, Call call, List<Integer> before) {
        String name = state.name() + ": " + call.name();
        if (call.answer() != Integer.MAX_VALUE) {
            Check.due(name, call.call().applyAsInt(state.made().get()), call.answer());
        }
        List<Integer> behind = sheet(state, call);
        int changed = 0;
        for (int i = 0; i < before.size(); i++) {
            changed += before.get(i).equals(behind.get(i)) ? 0 : 1;
        }
        Check.due(name + ": answers that it changed", changed, 0);
    }

    /** What an object answers to all looks, then what it does if it goes on; with a call ahead, or null. */
    private static List<Integer> sheet(State state, Call ahead) {
        List<Integer> answers = new ArrayList<>();
        List<ToIntFunction<LoadPress>> looks = looks();
        for (int start = 0; start < looks.size(); start += LOOKS_OF_ONE_OBJECT) {
            LoadPress x = made(state, ahead);
            for (int i = start; i < Math.min(start + LOOKS_OF_ONE_OBJECT, looks.size()); i++) {
                answers.add(looks.get(i).applyAsInt(x));
            }
        }
        answers.addAll(goOn(made(state, ahead)));
        answers.addAll(pressAnew(made(state, ahead)));
        return answers;
    }

    private static LoadPress made(State state, Call ahead) {
        LoadPress x = state.made().get();
        if (ahead != null) {
            ahead.call().applyAsInt(x);
        }
        return x;
    }

    private static List<ToIntFunction<LoadPress>> looks() {
        List<ToIntFunction<LoadPress>> looks = new ArrayList<>();
        for (int from = 0; from <= END; from++) {
            for (int to = 0; to <= END; to++) {
                int a = from;
                int b = to;
                looks.add(x -> x.steps(a, b));
                looks.add(x -> x.dealt(a, b));
                looks.add(x -> x.waits(a, b, 0));
                looks.add(x -> x.waits(a, b, 7));
            }
        }
        for (int number = 0; number <= 60; number++) {
            int n = number;
            looks.add(x -> x.count(n));
            looks.add(x -> x.walked(n));
            looks.add(x -> x.contexts(n % 5));
            looks.add(x -> x.states(n % 5));
            looks.add(x -> x.part(1 + n * 999 / 60, n % 4));
            looks.add(x -> x.late(n, n % 4));
            looks.add(x -> x.waiting(n));
            looks.add(LoadPress::behind);
            for (int what = 0; what <= 5; what++) {
                int w = what;
                looks.add(x -> x.told(n / 6, n % 6, w));
            }
        }
        return looks;
    }

    /** Goes on with the latest VISIT, then with a new one, then with what was walked. */
    private static List<Integer> goOn(LoadPress x) {
        List<Integer> answers = new ArrayList<>(List.of(x.ask(8, 3), x.visit(), x.ask(8, 4), x.count(0), x.count(1)));
        for (int place = 0; place <= END; place++) {
            answers.add(x.steps(place, 8));
            answers.add(x.steps(8, place));
        }
        answers.addAll(List.of(x.learn(), x.visit(), x.ask(9, 1), x.count(1), x.count(6)));
        return answers;
    }

    /** A PRESS shows COSTS, RARE numbers and that all is dealt anew. */
    private static List<Integer> pressAnew(LoadPress x) {
        x.visit();
        List<Integer> answers = new ArrayList<>(List.of(x.ask(0, 1), x.press(8, 3, 2)));
        for (int visit = 0; visit < 8; visit++) {
            for (int i = 0; i < 8; i++) {
                for (int what = 0; what <= 5; what++) {
                    answers.add(x.told(visit, i, what));
                }
            }
        }
        return answers;
    }

    private static List<State> states() {
        Call learn = new Call("learn()", LoadPress::learn, NONE);
        Call visit = new Call("visit()", LoadPress::visit, NONE);
        Call ask = new Call("ask(0, 0)", x -> x.ask(0, 0), NONE);
        Call press = new Call("press(1, 0, 1)", x -> x.press(1, 0, 1), NONE);
        List<Call> noPress = List.of(learn, new Call("walked(0)", x -> x.walked(0), NONE),
            new Call("told(0, 0, 0)", x -> x.told(0, 0, 0), NONE), new Call("part(1, 0)", x -> x.part(1, 0), NONE),
            new Call("late(0, 0)", x -> x.late(0, 0), NONE), new Call("behind()", LoadPress::behind, NONE),
            new Call("waiting(0)", x -> x.waiting(0), NONE));
        List<Call> nothing = new ArrayList<>(noPress);
        nothing.addAll(List.of(ask, press));
        return List.of(
            new State("new", LoadPress::new, nothing),
            new State("with a LOG", RefusedCallsTest::withLog, noPress),
            new State("with a VISIT of 20", () -> Given.longWalks(7), List.of(ask, learn)),
            new State("with a PRESS", RefusedCallsTest::withPress, List.of()),
            new State("cleared", RefusedCallsTest::cleared, List.of(ask, press)),
            new State("full", () -> Given.fullLog(7), List.of(visit, ask)));
    }

    private static LoadPress withLog() {
        LoadPress x = new LoadPress();
        Given.log(x, 1, 2, 1, 3);
        Given.logWaits(x, 1, 7, 0);
        Given.logWaits(x, 0, 7, 7);
        x.visit();
        x.rare(1, 3, 4);
        x.rare(END, 8, 5);
        x.rare(4, 4, 6);
        x.cost(0, 10);
        x.cost(1, 4);
        return x;
    }

    private static LoadPress withPress() {
        LoadPress x = withLog();
        x.press(7, 2, 2);
        return x;
    }

    private static LoadPress cleared() {
        LoadPress x = withPress();
        x.clear();
        return x;
    }

    private static List<Call> refusedEverywhere() {
        List<Call> calls = new ArrayList<>();
        for (int wrong : new int[] {Integer.MIN_VALUE, -1, 1_000_001, Integer.MAX_VALUE}) {
            calls.add(new Call("ask(" + wrong + ", 0)", x -> x.ask(wrong, 0), NONE));
            calls.add(new Call("ask(0, " + wrong + ")", x -> x.ask(0, wrong), NONE));
            calls.add(new Call("rare(" + wrong + ", 1, 50)", x -> x.rare(wrong, 1, 50) ? 1 : 0, NO));
            calls.add(new Call("rare(1, " + wrong + ", 50)", x -> x.rare(1, wrong, 50) ? 1 : 0, NO));
            calls.add(new Call("rare(1, 3, " + wrong + ")", x -> x.rare(1, 3, wrong) ? 1 : 0, NO));
            calls.add(new Call("cost(" + wrong + ", 50)", x -> x.cost(wrong, 50) ? 1 : 0, NO));
            calls.add(new Call("cost(1, " + wrong + ")", x -> x.cost(1, wrong) ? 1 : 0, NO));
            calls.add(new Call("press(" + wrong + ", 0, 1)", x -> x.press(wrong, 0, 1), NONE));
            calls.add(new Call("press(1, " + wrong + ", 1)", x -> x.press(1, wrong, 1), NONE));
            calls.add(new Call("press(1, 0, " + wrong + ")", x -> x.press(1, 0, wrong), NONE));
            calls.add(new Call("steps(" + wrong + ", 1)", x -> x.steps(wrong, 1), 0));
            calls.add(new Call("waits(1, " + wrong + ", 0)", x -> x.waits(1, wrong, 0), 0));
            calls.add(new Call("dealt(1, " + wrong + ")", x -> x.dealt(1, wrong), 0));
            calls.add(new Call("contexts(" + wrong + ")", x -> x.contexts(wrong), NONE));
            calls.add(new Call("states(" + wrong + ")", x -> x.states(wrong), NONE));
            calls.add(new Call("walked(" + wrong + ")", x -> x.walked(wrong), NONE));
            calls.add(new Call("told(0, " + wrong + ", 0)", x -> x.told(0, wrong, 0), NONE));
            calls.add(new Call("part(" + wrong + ", 0)", x -> x.part(wrong, 0), NONE));
            calls.add(new Call("late(" + wrong + ", 0)", x -> x.late(wrong, 0), NONE));
            calls.add(new Call("waiting(" + wrong + ")", x -> x.waiting(wrong), NONE));
            calls.add(new Call("count(" + wrong + ")", x -> x.count(wrong), NONE));
        }
        calls.addAll(refusedByOne());
        return calls;
    }

    /** Those that are out of bounds by one, above. */
    private static List<Call> refusedByOne() {
        return List.of(
            new Call("ask(10, 0)", x -> x.ask(10, 0), NONE),
            new Call("ask(0, 61)", x -> x.ask(0, 61), NONE),
            new Call("rare(11, 1, 50)", x -> x.rare(11, 1, 50) ? 1 : 0, NO),
            new Call("rare(1, 11, 50)", x -> x.rare(1, 11, 50) ? 1 : 0, NO),
            new Call("rare(1, 3, 101)", x -> x.rare(1, 3, 101) ? 1 : 0, NO),
            new Call("cost(10, 50)", x -> x.cost(10, 50) ? 1 : 0, NO),
            new Call("cost(1, 51)", x -> x.cost(1, 51) ? 1 : 0, NO),
            new Call("cost(1, 0)", x -> x.cost(1, 0) ? 1 : 0, NO),
            new Call("press(0, 0, 1)", x -> x.press(0, 0, 1), NONE),
            new Call("press(61, 0, 1)", x -> x.press(61, 0, 1), NONE),
            new Call("press(1, 101, 1)", x -> x.press(1, 101, 1), NONE),
            new Call("press(1, 0, 0)", x -> x.press(1, 0, 0), NONE),
            new Call("press(1, 0, 9)", x -> x.press(1, 0, 9), NONE));
    }

    /** Calls that are none of the state's to change, whatever they answer. */
    private static List<Call> questions() {
        int any = Integer.MAX_VALUE;
        return List.of(
            new Call("steps(1, 3)", x -> x.steps(1, 3), any),
            new Call("waits(10, 1, 7)", x -> x.waits(END, 1, 7), any),
            new Call("contexts(2)", x -> x.contexts(2), any),
            new Call("states(1)", x -> x.states(1), any),
            new Call("walked(0)", x -> x.walked(0), any),
            new Call("told(0, 0, 3)", x -> x.told(0, 0, 3), any),
            new Call("dealt(10, 1)", x -> x.dealt(END, 1), any),
            new Call("part(500, 0)", x -> x.part(500, 0), any),
            new Call("late(5, 0)", x -> x.late(5, 0), any),
            new Call("behind()", LoadPress::behind, any),
            new Call("waiting(5)", x -> x.waiting(5), any),
            new Call("count(6)", x -> x.count(6), any));
    }
}
