/** All sentences of the document, with the edges that they name; Edges says how. */
public final class EdgesTest {
  public static void main(String[] args) throws Exception {
    Edges edges = new Edges();
    new EdgesOfMeets(edges).all();
    new EdgesOfLaws(edges).all();
    new EdgesOfFaults(edges).all();
    new EdgesOfAwards(edges).all();
    new EdgesOfRounds(edges).all();
    new EdgesOfScripts(edges).all();
    new EdgesOfTexts(edges).all();
    new EdgesOfTold(edges).all();
    new EdgesOfLists(edges).all();
    new EdgesOfBoard(edges).all();
    new EdgesOfPoints(edges).all();
    new EdgesOfOutlook(edges).all();
    new EdgesOfPanels(edges).all();
    new EdgesOfFuture(edges).all();
    new EdgesOfKept(edges).all();
    edges.finish();
  }
}
