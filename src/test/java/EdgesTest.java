import java.io.IOException;

/** The edges of all promises: a test for each sentence of the document that names one. */
public final class EdgesTest {
    public static void main(String[] args) throws IOException {
        DeskEdges.all();
        DeedEdges.all();
        StageEdges.all();
        KindEdges.all();
        ShareEdges.all();
        WeightEdges.all();
        RowEdges.all();
        AnswerEdges.all();
        Edges.allSaid();
        Check.end("EdgesTest");
    }
}
