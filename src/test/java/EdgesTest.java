import java.io.IOException;

/** The edges of all promises and terms: a test for each sentence of the document. */
public final class EdgesTest {
    public static void main(String[] args) throws IOException {
        DeskEdges.all();
        DeedEdges.all();
        StageEdges.all();
        KindEdges.all();
        ShareEdges.all();
        WeightEdges.all();
        RowEdges.all();
        AnswerEdges.all();
        TermEdges.all();
        Edges.allSaid();
        Check.end("EdgesTest");
    }
}
