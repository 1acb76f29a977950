import java.io.IOException;

/** Promises 1 to 43 and the terms: each sentence of the document has answers of its own, at its edges. */
public final class EdgesTest {
    private EdgesTest() {
    }

    public static void main(String[] args) throws IOException {
        Edges edges = new Edges();
        new TermsEdges(edges).run();
        new ChangesEdges(edges).run();
        new QuestionsEdges(edges).run();
        new ExceptionsEdges(edges).run();
        new LinesEdges(edges).run();
        new SquaresEdges(edges).run();
        new SelectionEdges(edges).run();
        new CellsEdges(edges).run();
        new PasteEdges(edges).run();
        new HeaderEdges(edges).run();
        new SizesEdges(edges).run();
        new TakeBackEdges(edges).run();
        edges.end();
    }
}
