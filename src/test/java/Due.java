/** Counts and prints the answers that are not as due. */
final class Due {
    private static int wrong = 0;
    private static int asked = 0;

    private Due() { }

    static void due(String call, long got, long want) {
        asked++;
        if (got != want) {
            wrong++;
            if (wrong <= 50) {
                System.out.println(call + " answered " + got + ", due is " + want);
            }
        }
    }

    static int wrongAnswers() {
        return wrong;
    }

    /** Ends the test with exit code 1 if an answer was wrong. */
    static void end() {
        System.out.println(asked + " answers, " + wrong + " of them not as due");
        if (wrong != 0) {
            System.exit(1);
        }
    }
}
