/** Counts the answers that are not the ones due; a test ends with done(). */
final class Check {
    private int wrong = 0;

    void due(String call, int got, int want) {
        if (got != want) {
            wrong++;
            System.out.println(call + " answered " + got + ", due is " + want);
        }
    }

    /** An act that is done, and what it tells. */
    void tells(String call, KeeperRolls x, int answer, int want) {
        due(call, answer, 0);
        due("told() after " + call, x.told(), want);
    }

    /** An act that is refused, and tells nothing. */
    void refused(String call, KeeperRolls x, int before, int answer, int want) {
        due(call, answer, want);
        due("told() after " + call, x.told(), before);
    }

    void done() {
        if (wrong != 0) {
            System.out.println(wrong + " answers are not as due");
            System.exit(1);
        }
    }
}
