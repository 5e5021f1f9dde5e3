import java.io.IOException;

/** Answers held against those that are due, each under the words of the document that ask for it. */
final class Ledger {
    static final int APART = 1000000000;
    static final int LOW = Integer.MIN_VALUE;
    static final int HIGH = Integer.MAX_VALUE;

    private final Document document = new Document();
    private int promise;
    private String words = "";
    private int answers = 1;
    private int tests;
    private int wrong;

    Ledger() throws IOException {
    }

    /** A test begins, of words in the promise's own text. */
    void clause(int promise, String words) {
        next(promise, words);
        if (!document.quote(promise, words)) complain("these words are not in the promise");
    }

    /** A test begins, of words under "What it is" or "Terms" that the promise leans on. */
    void term(int promise, String words) {
        next(promise, words);
        if (!document.hasAhead(words)) complain("these words are not in the document");
    }

    private void next(int promise, String words) {
        if (answers == 0) complain("this test asked nothing");
        this.promise = promise;
        this.words = words;
        answers = 0;
        tests++;
    }

    void due(String call, long got, long want) {
        answers++;
        if (got != want) complain(call + " answered " + got + ", due is " + want);
    }

    private void complain(String what) {
        wrong++;
        System.out.println("promise " + promise + " '" + words + "': " + what);
    }

    /** All is well if every answer was due and no words of a promise went without a test. */
    boolean close() {
        next(0, "");
        tests--;
        for (int p = 1; p <= Document.PROMISES; p++) {
            String rest = document.unquoted(p);
            if (!rest.isEmpty()) {
                wrong++;
                System.out.println("promise " + p + " has words without a test: " + rest);
            }
        }
        if (!document.isHere()) System.out.println("the document is not here, so its words were not looked up");
        System.out.println(wrong == 0 ? tests + " boundary tests hold" : wrong + " answers or words are wrong");
        return wrong == 0;
    }
}
