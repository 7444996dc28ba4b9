/**
 * Each sentence of the document, word for word and with its promise's number, beside the tests of its boundaries:
 * what is still taken and what is not, what is empty and what is full, what wraps, and that refusals change nothing.
 * The tests stand in edges/; a sentence that stands beside none is told.
 */
public final class EdgeTest {
    private EdgeTest() {
    }

    public static void main(String[] args) {
        WellEdges.all();
        CountryEdges.all();
        DayEdges.all();
        AskedEdges.all();
        BestEdges.all();
        SeenEdges.all();
        YearEdges.all();
        ImageEdges.all();
        ActEdges.all();
        TapeEdges.all();
        Remarks.all();
        System.exit(Edge.allHolds() ? 0 : 1);
    }
}
