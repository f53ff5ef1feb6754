/** Every sentence of the document that names an edge, each with a test of its own. */
public final class EdgesTest {
    public static void main(String[] args) {
        TapeEdges.run();
        TownEdges.run();
        LawEdges.run();
        KeepEdges.run();
        TellEdges.run();
        ArgumentEdges.run();
        AskEdges.run();
        SeekEdges.run();
        Sentence.allTested();
        Check.finish();
    }
}
