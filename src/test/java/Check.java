/**
 * Compares answers with the ones that are due, sentence by sentence of the document, and ends a
 * test with exit code 1 if one was wrong.
 */
final class Check {
    static final int MAX = 2147483647;
    static final int MIN_INT = -2147483648;
    static final int REFUSED = -1;
    static final int FULL = -2;
    static final int NONE = -3;

    private final String test;
    private String sentence = "";
    private int sentences;
    private int askedInAll;
    private int askedHere;
    private int wrong;

    Check(String test) {
        this.test = test;
    }

    /** The answers that follow are due by this sentence, or part of one, of the document. */
    void sentence(String words) {
        endSentence();
        sentences++;
        sentence = "\"" + words + "\" ";
    }

    void due(String what, long got, long want) {
        asked();
        if (got != want) {
            tellWrong(what + " answered " + got + ", due is " + want);
        }
    }

    void due(String what, Object got, Object want) {
        asked();
        if (!got.equals(want)) {
            tellWrong(what + " is " + got + ", due is " + want);
        }
    }

    void finish() {
        endSentence();
        System.out.println(test + ": " + sentences + " sentences, " + askedInAll + " answers, " + wrong + " wrong");
        if (wrong != 0 || askedInAll == 0) {
            System.exit(1);
        }
    }

    private void asked() {
        askedInAll++;
        askedHere++;
    }

    private void tellWrong(String what) {
        wrong++;
        System.out.println(test + ": " + sentence + what);
    }

    /** A sentence that nothing was asked of has no test. */
    private void endSentence() {
        if (!sentence.isEmpty() && askedHere == 0) {
            tellWrong("has no test");
        }
        askedHere = 0;
    }
}
