/** Every sentence of the document by a test of its own, with the edges that it names; none may go without one. */
public final class EdgesTest {
    private EdgesTest() { }

    public static void main(String[] args) {
        Edges e = new Edges();
        EdgesOfWhatItIs.all(e);
        EdgesOfTelling.all(e);
        EdgesOfText.all(e);
        EdgesOfDeeds.all(e);
        EdgesOfAsking.all(e);
        EdgesOfThought.all(e);
        EdgesOfTime.all(e);
        if (!e.good()) {
            System.exit(1);
        }
    }
}
