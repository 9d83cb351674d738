import java.io.IOException;

/** Each sentence of the document, with its boundary cases: too small, too large, empty, full, over the end, refused. */
public final class BoundsTest {
    public static void main(String[] args) throws IOException {
        Check check = new Check("BoundsTest");
        Sentences sentences = new Sentences(check);
        new BoundsOfTexts(sentences).all();
        new BoundsOfLaws(sentences).all();
        new BoundsOfActs(sentences).all();
        new BoundsOfSets(sentences).all();
        new BoundsOfTowns(sentences).all();
        new BoundsOfCalls(sentences).all();
        new BoundsOfAnswers(sentences).all();
        sentences.allSaid();
        check.end();
    }
}
