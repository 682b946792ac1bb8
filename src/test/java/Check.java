/** Compares answers with those that are due, and tells at the end whether one was wrong. */
final class Check {
    private static int wrong = 0;
    private static int answers = 0;
    private static int sentences = 0;
    private static String said = "";

    private Check() {
    }

    /** Runs the test of one sentence of the document; it must look at one answer at least. */
    static void sentence(String words, Runnable test) {
        int before = answers;
        said = words + " | ";
        sentences++;
        test.run();
        due("answers were looked at", answers > before, true);
        said = "";
    }

    static void due(String call, long got, long want) {
        answers++;
        if (got != want) {
            wrong++;
            System.out.println(said + call + " answered " + got + ", due is " + want);
        }
    }

    static void due(String call, boolean got, boolean want) {
        due(call, got ? 1 : 0, want ? 1 : 0);
    }

    static boolean hasWrong() {
        return wrong > 0;
    }

    static void end() {
        if (sentences > 0) {
            System.out.print(sentences + " sentences, ");
        }
        System.out.println(answers + " answers, " + wrong + " of them wrong");
        if (wrong > 0) {
            System.exit(1);
        }
    }
}
