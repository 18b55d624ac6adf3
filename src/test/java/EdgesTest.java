/** For each sentence of the document that names an edge, a test of its own that names the sentence. */
public final class EdgesTest extends Edges {
    public static void main(String[] args) {
        ObjectEdges.all();
        InstructionEdges.all();
        LinkEdges.all();
        ImageEdges.all();
        RunEdges.all();
        topic = "the document";
        check("what no test names", Document.unnamed().isEmpty(), String.join("\n  ", Document.unnamed()), "nothing");
        end();
    }
}
