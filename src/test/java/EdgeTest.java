/** Each sentence of the document that names an edge, by itself; the parts stand in src/test/edges. */
public final class EdgeTest {
  public static void main(String[] args) throws Exception {
    Edges.begin();
    FloorEdges.all();
    TextEdges.all();
    RideEdges.all();
    ForetoldEdges.all();
    NoteEdges.all();
    if (!Edges.end()) { System.exit(1); }
  }
}
