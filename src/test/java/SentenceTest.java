import java.io.IOException;

/** Each sentence of the document that names a boundary has a test of its own; each of its words is named by one. */
public final class SentenceTest {
    public static void main(String[] args) throws IOException {
        Edges.readDocument();
        DayEdges.all();
        CostEdges.all();
        TextEdges.all();
        QueueEdges.all();
        TreatyEdges.all();
        BodyEdges.all();
        AnswerEdges.all();
        Edges.end();
    }
}
