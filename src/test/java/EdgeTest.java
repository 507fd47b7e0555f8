/** Every boundary case that the document names, sentence by sentence. */
public final class EdgeTest {
    public static void main(String[] args) {
        Sentences sentences = new Sentences();
        new TextEdges(sentences).all();
        new ActEdges(sentences).all();
        new HallEdges(sentences).all();
        new LookEdges(sentences).all();
        sentences.end("EdgeTest");
    }
}
