import java.io.IOException;

/** Each sentence of the document that a call can break has tests of its own, each with a new object. */
public final class BoundaryTest {
    private BoundaryTest() {
    }

    public static void main(String[] args) throws IOException {
        Check check = new Check("BoundaryTest");
        Sentences sentences = new Sentences(check);
        KeyBoundaries.test(sentences);
        CommandBoundaries.test(sentences);
        StrategyBoundaries.test(sentences);
        TableBoundaries.test(sentences);
        ListingBoundaries.test(sentences);
        sentences.checkThatEachIsQuoted();
        check.close();
    }
}
