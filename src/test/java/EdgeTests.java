import java.io.IOException;

/** Every sentence of the document by itself, with the boundary cases that it names. */
public final class EdgeTests {
    public static void main(String[] args) throws IOException {
        Edge e = new Edge();
        TextEdges.run(e);
        BridgeEdges.run(e);
        DeedEdges.run(e);
        TrayDeedEdges.run(e);
        OverEdges.run(e);
        DebtEdges.run(e);
        PaperEdges.run(e);
        TrayEdges.run(e);
        RefusedEdges.run(e);
        e.end();
    }
}
