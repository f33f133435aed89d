// Promises 5, 21 and 45: the mask of a section.
public final class MasksTest {
  private static final Check CHECK = new Check("MasksTest");

  public static void main(String[] args) {
    columnsAreMasked();
    wrongColumnsAreNotMasked();
    theShareIsAskedFor();
    CHECK.end();
  }

  private static void columnsAreMasked() {
    ScoreOrchestra x = Orchestras.with("s:12", "w:12");
    CHECK.due("21: empty initially", false, () -> x.isMasked(0, 0));
    CHECK.due("5: was not in the mask", false, () -> x.setMasked(0, 0, true));
    CHECK.due("5: was in the mask", true, () -> x.setMasked(0, 0, true));
    CHECK.due("21: is in the mask", true, () -> x.isMasked(0, 0));
    CHECK.due("21: another column is not", false, () -> x.isMasked(0, 1));
    CHECK.due("21: another section's is not", false, () -> x.isMasked(1, 0));
    CHECK.due("5: a number behind the columns", false, () -> x.setMasked(0, 5, true));
    CHECK.due("21: a number behind the columns", true, () -> x.isMasked(0, 5));
    CHECK.due("5: taken out", true, () -> x.setMasked(0, 0, false));
    CHECK.due("5: taken out again", false, () -> x.setMasked(0, 0, false));
    CHECK.due("21: is out", false, () -> x.isMasked(0, 0));
    CHECK.due("21: the other one is still in", true, () -> x.isMasked(0, 5));
  }

  private static void wrongColumnsAreNotMasked() {
    ScoreOrchestra x = Orchestras.with("s:123456");
    for (int column : new int[] {-1, 6, 32, -32, 37, Integer.MIN_VALUE, Integer.MAX_VALUE}) {
      CHECK.due("5: column " + column, IllegalArgumentException.class, () -> x.setMasked(0, column, true));
      CHECK.due("21: column " + column, IllegalArgumentException.class, () -> x.isMasked(0, column));
      CHECK.due("5: column " + column + " without section", IndexOutOfBoundsException.class,
          () -> x.setMasked(1, column, true));
      CHECK.due("21: column " + column + " without section", IndexOutOfBoundsException.class,
          () -> x.isMasked(-1, column));
    }
    CHECK.due("5: no section", IndexOutOfBoundsException.class, () -> x.setMasked(1, 0, false));
    CHECK.due("21: no section", IndexOutOfBoundsException.class, () -> x.isMasked(1, 0));
    CHECK.due("5: nothing has changed", "......f0", () -> Orchestras.mask(x, 0));
  }

  private static void theShareIsAskedFor() {
    ScoreOrchestra x = Orchestras.with("s:123", "w:1/2");
    CHECK.due("45: none of 3", 0f, () -> x.maskedShare(0));
    x.setMasked(0, 2, true);
    CHECK.due("45: 1 of 3", 1f / 3f, () -> x.maskedShare(0));
    x.setMasked(0, 3, true);
    CHECK.due("45: 1 of 3, and a number behind them", 1f / 3f, () -> x.maskedShare(0));
    x.setMasked(0, 0, true);
    CHECK.due("45: 2 of 3", 2f / 3f, () -> x.maskedShare(0));
    CHECK.due("45: none of 1", 0f, () -> x.maskedShare(1));
    x.transpose(0);
    CHECK.due("45: 1 of 1 after transposing", 1f, () -> x.maskedShare(0));
    CHECK.due("45: no section 2", IndexOutOfBoundsException.class, () -> x.maskedShare(2));
    CHECK.due("45: no section -1", IndexOutOfBoundsException.class, () -> x.maskedShare(-1));
  }
}
