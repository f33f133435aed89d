// Promises 47 to 49: the output text.
final class OutputBoundaries {
  private final Sentences s;

  OutputBoundaries(Sentences sentences) {
    s = sentences;
  }

  void tell() {
    renderScore();
    renderMask();
    outputAt();
  }

  private void renderScore() {
    s.promise(47, "Replaces the output text by the score of a section: the kind, \":\", and the notes row by row, with "
        + "\"/\" between two rows, as in \"w:103/250\".");
    String[] scores = {"w:103/250", "s:0", "d:1/2/3/4/5/6", "s:123456",
        "d:123456/234567/345678/456789/567890/678901"};
    ScoreOrchestra x = Orchestras.with(scores);
    for (int i = 0; i < scores.length; i++) {
      int section = i;
      s.due(scores[section], scores[section], () -> Orchestras.score(x, section));
    }
    x.renderScore(1);
    s.due("nothing of the longer text stays", IndexOutOfBoundsException.class, () -> x.outputAt(3));

    s.promise(47, "Returns the length of the output text.");
    for (int i = 0; i < scores.length; i++) {
      int section = i;
      s.due(scores[section], scores[section].length(), () -> x.renderScore(section));
    }
    s.due("the shortest", 3, () -> x.renderScore(1));
    s.due("the longest", 43, () -> x.renderScore(4));

    s.noSuchSection(47, "renderScore", ScoreOrchestra::renderScore);
  }

  private void renderMask() {
    s.promise(48, "Replaces the output text by the columns of a section: for each column of its score \"x\" if it is "
        + "in the mask or \".\" otherwise, then \"f\" and the fatigue, and \"r\" and the number of beats for which it "
        + "rests if it rests, as in \".x.f2r1\".");
    ScoreOrchestra x = Orchestras.with("s:9");
    s.due("one column", ".f0", () -> Orchestras.mask(x, 0));
    x.setLimit(8);
    for (String mask : new String[] {".f1", ".f2", ".f0r2", ".f0r1", ".f0", ".f1"}) {
      x.conductBeats(1);
      s.due("after beat " + x.beatCount(), mask, () -> Orchestras.mask(x, 0));
    }
    x.setMasked(0, 0, true);
    x.setMasked(0, 1, true);
    s.due("masked, and a number without a column", "xf1", () -> Orchestras.mask(x, 0));
    ScoreOrchestra wide = Orchestras.with("s:999999", "d:1");
    wide.setLimit(1);
    for (int column = 0; column <= 5; column++) {
      s.due("before column " + column, "x".repeat(column) + ".".repeat(6 - column) + "f0",
          () -> Orchestras.mask(wide, 0));
      wide.setMasked(0, column, true);
    }
    s.due("all six", "xxxxxxf0", () -> Orchestras.mask(wide, 0));
    s.due("another section", ".f0", () -> Orchestras.mask(wide, 1));

    s.promise(48, "Returns the length of the output text.");
    s.due("one column", 3, () -> x.renderMask(0));
    s.due("six columns", 8, () -> wide.renderMask(0));
    ScoreOrchestra resting = Orchestras.with("s:999999");
    resting.setLimit(1);
    resting.conductBeats(3);
    s.due("six columns and a rest", 10, () -> resting.renderMask(0));

    s.noSuchSection(48, "renderMask", ScoreOrchestra::renderMask);
  }

  private void outputAt() {
    s.promise(49, "Returns a character of the output text, which is empty initially.");
    ScoreOrchestra x = Orchestras.with("w:103/250");
    s.due("initially", IndexOutOfBoundsException.class, () -> x.outputAt(0));
    x.renderScore(0);
    String text = "w:103/250";
    for (int i = 0; i < text.length(); i++) {
      int index = i;
      s.due("index " + index, text.charAt(index), () -> x.outputAt(index));
    }

    s.promise(49, "Throws IndexOutOfBoundsException if there is no such index");
    for (int index : new int[] {-1, 9, 10, 59, 60, Integer.MIN_VALUE, Integer.MAX_VALUE, 256}) {
      s.due("index " + index, IndexOutOfBoundsException.class, () -> x.outputAt(index));
      s.due("index " + index + " initially", IndexOutOfBoundsException.class,
          () -> new ScoreOrchestra().outputAt(index));
    }
    x.renderMask(0);
    s.stands("the last index of the shorter text", () -> x.outputAt(4));
    for (int i = 5; i < 9; i++) {
      int index = i;
      s.due("index " + index + " of the shorter text", IndexOutOfBoundsException.class, () -> x.outputAt(index));
    }
  }
}
