import java.io.IOException;

/** Sentence by sentence: each of the document has checks of its own, at all edges that it names. */
public final class SentenceTest {
    public static void main(String[] args) throws IOException {
        Sentences sentences = new Sentences();
        new BoardSentences(sentences).all();
        new RunSentences(sentences).all();
        new FlightSentences(sentences).all();
        new PartSentences(sentences).all();
        new RowSentences(sentences).all();
        sentences.end();
    }
}
