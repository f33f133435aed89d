import java.io.IOException;

// The document sentence by sentence: each one that names a boundary case is told by a test of its own, with the
// answers that it asks for.
public final class BoundariesTest {
  public static void main(String[] args) throws IOException {
    Sentences sentences = new Sentences("BoundariesTest");
    new TermBoundaries(sentences).tell();
    new ChangeBoundaries(sentences).tell();
    new QuestionBoundaries(sentences).tell();
    new AccountBoundaries(sentences).tell();
    new OutputBoundaries(sentences).tell();
    new ScriptBoundaries(sentences).tell();
    new UndoBoundaries(sentences).tell();
    new RefusalBoundaries(sentences).tell();
    sentences.end();
  }
}
