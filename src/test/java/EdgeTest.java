/** Each sentence of the document by itself, from its first line to its last; the parts stand in src/test/edges. */
public final class EdgeTest {
  public static void main(String[] args) throws Exception {
    Edges.begin();
    WholeEdges.all();
    FloorEdges.all();
    TextEdges.all();
    RideEdges.all();
    ForetoldEdges.all();
    NoteEdges.all();
    if (!Edges.end()) { System.exit(1); }
  }
}
