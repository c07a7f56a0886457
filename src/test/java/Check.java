/** Counts the answers that are not the ones due, under the sentence of the document that asks for them. */
final class Check {
    private String sentence = "";
    private int wrong = 0;

    /** The words of the document that the calls from here on must keep. */
    void sentence(String words) {
        sentence = words;
    }

    void due(String call, int got, int want) {
        if (got != want) {
            wrong++;
            System.out.println("[" + sentence + "] " + call + " answered " + got + ", due is " + want);
        }
    }

    /** An act that is done, and what told() is then. */
    void tells(String call, KeeperRolls x, int answer, int want) {
        due(call, answer, 0);
        due("told() after " + call, x.told(), want);
    }

    /** An act that is refused, and leaves told() as it was. */
    void refused(String call, KeeperRolls x, int before, int answer, int want) {
        due(call, answer, want);
        due("told() after " + call, x.told(), before);
    }

    void done() {
        if (wrong != 0) {
            System.out.println(wrong + " answers are not as due");
            System.exit(1);
        }
    }
}
