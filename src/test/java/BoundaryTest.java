/**
 * The sentences of the document that name a boundary case, each with a test of its own: the last
 * input inside the bound and the first one outside it, the empty and the full, what goes round,
 * and that a refused call leaves the object as it was. Every test names its promise and its
 * sentence, which are looked up in the document; words of a promise or of the terms that no test
 * has named fail, too.
 */
public final class BoundaryTest {
    private BoundaryTest() {
    }

    public static void main(String[] args) {
        BoundsOfActs.check();
        BoundsOfAnswers.check();
        BoundsOfTerms.check();
        Document.allIsTold();
        Due.end("BoundaryTest");
    }
}
