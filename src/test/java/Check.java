/** Counts the answers that are not the ones that are due, and tells each. */
final class Check {
    private int wrong = 0;
    private int asked = 0;

    void due(String promise, long got, long want) {
        asked++;
        if (got != want) {
            wrong++;
            System.out.println(promise + ": answered " + got + ", due is " + want);
        }
    }

    /** Ends the program with exit code 1 if an answer was wrong. */
    void end() {
        System.out.println(asked + " answers, " + wrong + " wrong");
        if (wrong != 0 || asked == 0) {
            System.exit(1);
        }
    }
}
