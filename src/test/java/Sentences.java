/** Runs tests that each hold the program to one sentence of the document, and names the sentence if it doesn't hold. */
final class Sentences {
    private static final Document DOCUMENT = Document.read();
    private static String chapter = "";

    private Sentences() {
    }

    static void chapter(String heading) {
        chapter = heading;
    }

    /** A test of one sentence, or of one part of a sentence, in the document's own words. */
    static void sentence(String words, Runnable test) {
        Checks.about(chapter + ", \"" + words + "\"");
        Checks.due("whether the document says so", DOCUMENT.quote(chapter, words), true);
        try {
            test.run();
        } catch (RuntimeException | StackOverflowError | OutOfMemoryError e) {
            Checks.due("what was thrown", e, null);
        }
    }

    /** Words of the chapter that promise nothing that a call could show. */
    static void noPromise(String words) {
        Checks.about(chapter + ", \"" + words + "\"");
        Checks.due("whether the document says so", DOCUMENT.quote(chapter, words), true);
    }

    /** FaceTest holds the program to the public face; what is not promised is not tested. */
    static void everySentenceHasATest() {
        Checks.about("the document");
        for (String heading : DOCUMENT.chapters()) {
            if (!heading.equals("The public face") && !heading.equals("Not promised")) {
                Checks.due("words that no test is about, in " + heading, DOCUMENT.unquoted(heading), "");
            }
        }
    }
}
