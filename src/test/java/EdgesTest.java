/** Each sentence of the document that names an edge: just inside it, just outside it, and what is refused. */
public final class EdgesTest {
  public static void main(String[] args) {
    BookEdges.run();
    ActEdges.run();
    PastEdges.run();
    PlanEdges.run();
    TextEdges.run();
    ImageEdges.run();
    NoneEdges.run();
    Check.of("every promise");
    for (int promise = 1; promise <= 34; promise++) {
      Check.due("promise " + promise + " was asked about", Check.asked("Promise " + promise + ","), true);
    }
    Check.finish("EdgesTest");
  }
}
