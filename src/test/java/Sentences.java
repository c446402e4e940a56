/** Tests that are told with the words of the document that each of them holds. */
final class Sentences {
    private final Check check;
    private final Document document;

    Sentences(Check check, Document document) {
        this.check = check;
        this.document = document;
    }

    /** A promise (or Document.TERMS, USE, FACE) says these words; the test fails if they are broken. */
    void holds(int promise, String words, Runnable test) {
        check.about(promise + " \"" + words + "\"");
        check.due("the document says it", document.tick(promise, words) ? 1 : 0, 1);
        int before = check.checked();
        run(test);
        check.due("something is checked", check.checked() > before ? 1 : 0, 1);
        check.about("");
    }

    /** What a call throws is wrong, and the other sentences are tested all the same. */
    private void run(Runnable test) {
        try {
            test.run();
        } catch (RuntimeException | StackOverflowError thrown) {
            check.due("no call throws, " + thrown + " at " + thrown.getStackTrace()[0] + ":", 0, 1);
        }
    }

    void end() {
        for (String words : document.untested()) {
            check.due("no test is told for " + words, 0, 1);
        }
    }
}
