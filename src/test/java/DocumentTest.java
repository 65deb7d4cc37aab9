import java.io.IOException;

/** The document sentence by sentence: each one that names an edge has a test of its own, which quotes it. */
public final class DocumentTest {
    public static void main(String[] args) throws IOException {
        Sentences s = new Sentences("DocumentTest");
        new MapEdges(s).all();
        new FieldEdges(s).all();
        new RulesEdges(s).all();
        new CallEdges(s).all();
        new TickEdges(s).all();
        new ReportEdges(s).all();
        new CoverEdges(s).all();
        new AnswerEdges(s).all();
        new RefusedEdges(s).all();
        s.end();
    }
}
