import java.io.IOException;

/** Each sentence of the document, with the boundary cases that it names, by a test of its own. */
public final class EdgesTest {
    public static void main(String[] args) throws IOException {
        Edges edges = new Edges();
        new EdgesOfSizes(edges).run();
        new EdgesOfMemory(edges).run();
        new EdgesOfPages(edges).run();
        new EdgesOfWords(edges).run();
        new EdgesOfAsking(edges).run();
        new EdgesOfForecasts(edges).run();
        new EdgesOfText(edges).run();
        new EdgesOfUndo(edges).run();
        edges.end();
    }
}
