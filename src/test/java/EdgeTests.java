/** The boundary cases that the document's sentences name: promise by promise, each with its name. */
public final class EdgeTests {
    private EdgeTests() {
    }

    public static void main(String[] args) {
        EdgesOfText.run();
        EdgesOfBoat.run();
        EdgesOfActs.run();
        EdgesOfAlike.run();
        EdgesOfSearch.run();
        EdgesOfRuns.run();
        EdgesOfQuestion.run();
        EdgesOfImage.run();
        EdgesInTurn.run();
        Check.everyPromiseHasEdges();
        Check.done("EdgeTests");
    }
}
