import java.nio.file.Path;

/** Every boundary case that the document names has a test of its own, and holds; run from the project's folder. */
public final class EdgesTest {
    public static void main(String[] args) throws Exception {
        Edges edges = new Edges();
        new EdgesOfTexts(edges).all();
        new EdgesOfBegun(edges).all();
        new EdgesOfLaidBehind(edges).all();
        new EdgesOfPutIn(edges).all();
        new EdgesOfChanged(edges).all();
        new EdgesOfAsked(edges).all();
        new EdgesOfWhole(edges).all();
        new EdgesOfRefusals(edges).all();
        DocumentWords document = new DocumentWords(Path.of("../shared/DOC.md"));
        edges.is("sentences are read from the document", true, document.size() > 200);
        edges.is("sentences that name a boundary case and have no test", "[]", document.without(edges.cases()).toString());
        edges.is("tests that quote other words than the document's", "[]", document.strange(edges.cases()).toString());
        edges.end();
    }
}
