/** Each sentence of the document, told word for word, with the edges that it names. */
public final class EdgesTest {
    public static void main(String[] args) throws Exception {
        Edge.readDocument();
        EdgesOfTongues.run();
        EdgesOfTexts.run();
        EdgesOfMeanings.run();
        EdgesOfRows.run();
        EdgesOfTears.run();
        EdgesOfBooks.run();
        Edge.allIsTold();
        Check.end("EdgesTest");
    }
}
