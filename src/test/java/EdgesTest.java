/** Each sentence of the document has a test of its own; at the end none may be left without. */
public final class EdgesTest {
    public static void main(String[] args) {
        Edges e = new Edges();
        new TermsEdges(e).run();
        new DayEdges(e).run();
        new OathsEdges(e).run();
        new BoundEdges(e).run();
        new ColdEdges(e).run();
        new SheetsEdges(e).run();
        e.end();
    }
}
