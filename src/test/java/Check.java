/** Compares answers with those that are due, and tells at the end whether one was wrong. */
final class Check {
    private static int wrong = 0;
    private static int answers = 0;

    private Check() {
    }

    static void due(String call, long got, long want) {
        answers++;
        if (got != want) {
            wrong++;
            System.out.println(call + " answered " + got + ", due is " + want);
        }
    }

    static void due(String call, boolean got, boolean want) {
        due(call, got ? 1 : 0, want ? 1 : 0);
    }

    static boolean hasWrong() {
        return wrong > 0;
    }

    static void end() {
        System.out.println(answers + " answers, " + wrong + " of them wrong");
        if (wrong > 0) {
            System.exit(1);
        }
    }
}
