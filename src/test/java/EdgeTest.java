import java.io.IOException;
import java.nio.file.Path;

/** The document sentence by sentence: what is too small, too large, empty, full, goes round or is refused. */
public final class EdgeTest {
    private EdgeTest() { }

    public static void main(String[] args) throws IOException {
        Edges edges = new Edges(Path.of(System.getProperty("shared", "../shared"), "DOC.md"));
        new EdgesOfTexts(edges).all();
        new EdgesOfActs(edges).all();
        new EdgesOfAsks(edges).all();
        edges.finish();
    }
}
