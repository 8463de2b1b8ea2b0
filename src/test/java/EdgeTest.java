/**
 * Each sentence of the document that names a boundary: the last input that is taken, the first that is refused on each
 * side, and that a refused call changes nothing. Fails too if a stretch of the document is quoted by no test.
 */
public final class EdgeTest {
  private EdgeTest() {}

  /** Argument: the document. */
  public static void main(String[] args) throws Exception {
    Check.read(args[0]);
    TextEdges.run();
    ActEdges.run();
    AskEdges.run();
    NoteEdges.run();
    Check.allQuoted();
    if (!Check.end("EdgeTest")) System.exit(1);
  }
}
