/** Each sentence of the document that names a boundary case, by a test of its own. */
public final class EdgesTest {
    private EdgesTest() {
    }

    public static void main(String[] args) {
        Edge.runAll(EdgeBounds.class, EdgePlay.class, EdgeTexts.class, EdgeThought.class, EdgeUndo.class);
        Check.close();
    }
}
