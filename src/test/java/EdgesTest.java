/** Every sentence of the document that names an edge, each with a test of its own; the groups hold them. */
public final class EdgesTest {
    public static void main(String[] args) {
        RoomEdges.run();
        DoneEdges.run();
        ImageEdges.run();
        HeardEdges.run();
        FoundEdges.run();
        KeptEdges.run();
        RefusedEdges.run();
        Due.under("An object is used for at most 512 calls after it has been made");
        KeptEdges.manyCalls();
        Due.under("");
        for (String words : Edge.without()) Due.holds("there is a test for: " + words, false);
        Due.end();
    }
}
