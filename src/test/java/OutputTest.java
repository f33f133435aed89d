// Promises 47 to 49: the output text.
public final class OutputTest {
  private static final Check CHECK = new Check("OutputTest");

  public static void main(String[] args) {
    scoresAreRendered();
    masksAreRendered();
    theOutputIsReplaced();
    CHECK.end();
  }

  private static void scoresAreRendered() {
    ScoreOrchestra x = Orchestras.with("w:103/250", "s:7", "d:123456/234567/345678/456789/567890/678901");
    CHECK.due("47: length of two rows", 9, () -> x.renderScore(0));
    CHECK.due("47: two rows", "w:103/250", () -> Orchestras.score(x, 0));
    CHECK.due("47: length of a single note", 3, () -> x.renderScore(1));
    CHECK.due("47: a single note", "s:7", () -> Orchestras.score(x, 1));
    CHECK.due("47: length of the largest score", 43, () -> x.renderScore(2));
    CHECK.due("47: the largest score", "d:123456/234567/345678/456789/567890/678901",
        () -> Orchestras.score(x, 2));
  }

  private static void masksAreRendered() {
    ScoreOrchestra x = Orchestras.with("s:191", "w:1");
    CHECK.due("48: length without rest", 5, () -> x.renderMask(0));
    CHECK.due("48: without mask", "...f0", () -> Orchestras.mask(x, 0));
    x.setMasked(0, 1, true);
    x.setMasked(0, 5, true);
    CHECK.due("48: with a mask, not behind the columns", ".x.f0", () -> Orchestras.mask(x, 0));
    x.setMasked(0, 1, false);
    x.setLimit(5);
    x.conductBeats(2);
    CHECK.due("48: tired", "...f1", () -> Orchestras.mask(x, 0));
    x.conductBeats(3);
    CHECK.due("48: tired twice", "...f2", () -> Orchestras.mask(x, 0));
    x.conductBeats(3);
    CHECK.due("48: length with rest", 7, () -> x.renderMask(0));
    CHECK.due("48: resting", "...f0r2", () -> Orchestras.mask(x, 0));
    x.conductBeats(1);
    CHECK.due("48: resting once more", "...f0r1", () -> Orchestras.mask(x, 0));
    x.conductBeats(1);
    CHECK.due("48: the rest is over", "...f0", () -> Orchestras.mask(x, 0));
  }

  private static void theOutputIsReplaced() {
    ScoreOrchestra x = Orchestras.with("w:103/250", "d:1");
    CHECK.due("49: empty initially", IndexOutOfBoundsException.class, () -> x.outputAt(0));
    x.renderScore(0);
    CHECK.due("49: the first character", 'w', () -> x.outputAt(0));
    CHECK.due("49: the last character", '0', () -> x.outputAt(8));
    for (int index : new int[] {-1, 9, 60, Integer.MIN_VALUE, Integer.MAX_VALUE}) {
      CHECK.due("49: index " + index, IndexOutOfBoundsException.class, () -> x.outputAt(index));
    }
    CHECK.due("47: no section 2", IndexOutOfBoundsException.class, () -> x.renderScore(2));
    CHECK.due("47: no section -1", IndexOutOfBoundsException.class, () -> x.renderScore(-1));
    CHECK.due("48: no section 2", IndexOutOfBoundsException.class, () -> x.renderMask(2));
    CHECK.due("48: no section -1", IndexOutOfBoundsException.class, () -> x.renderMask(-1));
    CHECK.due("49: the output text stays", "w:103/250", () -> Orchestras.output(x, 9));
    x.renderMask(1);
    CHECK.due("49: the output text is replaced", ".f0", () -> Orchestras.output(x, 3));
    CHECK.due("49: the shorter text has ended", IndexOutOfBoundsException.class, () -> x.outputAt(3));
  }
}
