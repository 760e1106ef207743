/** Each sentence of the document that names an edge, with a test of its own, in the document's order. */
public final class EdgeTests extends Edges {
    public static void main(String[] args) {
        TermEdges.run();
        RouterEdges.run();
        StackEdges.run();
        PacketEdges.run();
        NetEdges.run();
        CoreEdges.run();
        FigureEdges.run();
        allSaid();
        end("EdgeTests");
    }
}
