// Promises 4, 6 to 8, 20, 24 and 25: the notes of a score.
public final class ScoresTest {
  private static final Check CHECK = new Check("ScoresTest");
  private static final int[] NO_SECTIONS = {-1, 2, 5, Integer.MIN_VALUE, Integer.MAX_VALUE};

  public static void main(String[] args) {
    notesAreSet();
    wrongNotesAreNotSet();
    scoresAreTransposed();
    scoresAreReversed();
    scoresAreRaised();
    scoresAreSymmetric();
    scoresAreAlike();
    sectionsThatAreNotThere();
    CHECK.end();
  }

  private static void notesAreSet() {
    ScoreOrchestra x = Orchestras.with("s:00/00/00", "w:000000/000000/000000/000000/000000/000000");
    CHECK.due("4: the previous note was 0", 0, () -> x.setNote(0, 2, 1, 9));
    CHECK.due("4: the previous note was 9", 9, () -> x.setNote(0, 2, 1, 4));
    CHECK.due("20: the new note", 4, () -> x.note(0, 2, 1));
    CHECK.due("20: another note", 0, () -> x.note(0, 1, 1));
    CHECK.due("4: the note 0", 4, () -> x.setNote(0, 2, 1, 0));
    CHECK.due("20: the note 0", 0, () -> x.note(0, 2, 1));
    CHECK.due("4: the last place of the largest score", 0, () -> x.setNote(1, 5, 5, 7));
    CHECK.due("20: the last place of the largest score", 7, () -> x.note(1, 5, 5));
    CHECK.due("4: only one place is set", "w:000000/000000/000000/000000/000000/000007",
        () -> Orchestras.score(x, 1));
  }

  private static void wrongNotesAreNotSet() {
    ScoreOrchestra x = Orchestras.with("s:12/34/56");
    int[][] wrongPlaces = {{-1, 0}, {3, 0}, {0, -1}, {0, 2}, {6, 0}, {0, 6}, {2, -6}, {Integer.MAX_VALUE, 0},
        {0, Integer.MIN_VALUE}};
    for (int[] place : wrongPlaces) {
      String where = place[0] + ", " + place[1];
      CHECK.due("4: at " + where, IndexOutOfBoundsException.class, () -> x.setNote(0, place[0], place[1], 1));
      CHECK.due("4: a wrong note at " + where, IndexOutOfBoundsException.class,
          () -> x.setNote(0, place[0], place[1], 10));
      CHECK.due("20: at " + where, IndexOutOfBoundsException.class, () -> x.note(0, place[0], place[1]));
    }
    for (int note : new int[] {-1, 10, Integer.MIN_VALUE, Integer.MAX_VALUE}) {
      CHECK.due("4: the note " + note, IllegalArgumentException.class, () -> x.setNote(0, 0, 0, note));
    }
    CHECK.due("4: nothing has changed", "s:12/34/56", () -> Orchestras.score(x, 0));
  }

  private static void scoresAreTransposed() {
    ScoreOrchestra x = Orchestras.with("w:103/250", "s:7");
    x.setMasked(0, 2, true);
    CHECK.due("6: two columns", 2, () -> x.transpose(0));
    CHECK.due("6: the transposed score", "w:12/05/30", () -> Orchestras.score(x, 0));
    CHECK.due("6: three rows", 3, () -> x.rows(0));
    CHECK.due("6: the mask does not change", true, () -> x.isMasked(0, 2));
    CHECK.due("6: three columns again", 3, () -> x.transpose(0));
    CHECK.due("6: the score as it was", "w:103/250", () -> Orchestras.score(x, 0));
    CHECK.due("6: a single note", 1, () -> x.transpose(1));
    CHECK.due("6: a single note stays", "s:7", () -> Orchestras.score(x, 1));
    ScoreOrchestra wide = Orchestras.with("d:123456");
    CHECK.due("6: a single row", 1, () -> wide.transpose(0));
    CHECK.due("6: becomes a single column", "d:1/2/3/4/5/6", () -> Orchestras.score(wide, 0));
  }

  private static void scoresAreReversed() {
    ScoreOrchestra x = Orchestras.with("w:103/250", "s:121/000", "d:1234/1221");
    x.setMasked(0, 0, true);
    CHECK.due("7: four notes are different", 4, () -> x.reverse(0));
    CHECK.due("7: the reversed score", "w:301/052", () -> Orchestras.score(x, 0));
    CHECK.due("7: the mask does not change", "x..f0", () -> Orchestras.mask(x, 0));
    CHECK.due("7: no note is different", 0, () -> x.reverse(1));
    CHECK.due("7: an even number of columns", 4, () -> x.reverse(2));
    CHECK.due("7: an even number of columns, reversed", "d:4321/1221", () -> Orchestras.score(x, 2));
    ScoreOrchestra narrow = Orchestras.with("s:1/2");
    CHECK.due("7: a single column", 0, () -> narrow.reverse(0));
    CHECK.due("7: rows keep their order", "s:1/2", () -> Orchestras.score(narrow, 0));
  }

  private static void scoresAreRaised() {
    ScoreOrchestra x = Orchestras.with("s:103/250", "w:00");
    CHECK.due("8: four notes are not 0", 4, () -> x.raise(0, 4));
    CHECK.due("8: a note 0 stays 0", "s:507/690", () -> Orchestras.score(x, 0));
    CHECK.due("8: over 9", UnsupportedOperationException.class, () -> x.raise(0, 1));
    CHECK.due("8: nothing has changed", "s:507/690", () -> Orchestras.score(x, 0));
    CHECK.due("8: down to 1", 4, () -> x.raise(0, -4));
    CHECK.due("8: down to 1, the score", "s:103/250", () -> Orchestras.score(x, 0));
    CHECK.due("8: below 1", UnsupportedOperationException.class, () -> x.raise(0, -1));
    CHECK.due("8: by 0", 4, () -> x.raise(0, 0));
    CHECK.due("8: by 9 without notes", 0, () -> x.raise(1, 9));
    CHECK.due("8: by -9 without notes", 0, () -> x.raise(1, -9));
    for (int by : new int[] {10, -10, Integer.MIN_VALUE, Integer.MAX_VALUE}) {
      CHECK.due("8: by " + by, IllegalArgumentException.class, () -> x.raise(0, by));
      CHECK.due("8: by " + by + " without notes", IllegalArgumentException.class, () -> x.raise(1, by));
      CHECK.due("8: by " + by + " without section", IndexOutOfBoundsException.class, () -> x.raise(2, by));
    }
    CHECK.due("8: the last note is looked at", UnsupportedOperationException.class,
        () -> Orchestras.with("s:11/19").raise(0, 1));
  }

  private static void scoresAreSymmetric() {
    ScoreOrchestra x = Orchestras.with("s:123/245/356", "w:123/245/366", "d:111/111", "s:0");
    CHECK.due("24: a symmetric score", true, () -> x.isSymmetric(0));
    CHECK.due("24: one note is different", false, () -> x.isSymmetric(1));
    CHECK.due("24: rows and columns are different", false, () -> x.isSymmetric(2));
    CHECK.due("24: a single note", true, () -> x.isSymmetric(3));
    CHECK.due("24: the score does not change", "w:123/245/366", () -> Orchestras.score(x, 1));
    ScoreOrchestra empty = Orchestras.with("s:00", "s:0/0");
    CHECK.due("24: a row of notes 0", false, () -> empty.isSymmetric(0));
    CHECK.due("24: a column of notes 0", false, () -> empty.isSymmetric(1));
  }

  private static void scoresAreAlike() {
    ScoreOrchestra x = Orchestras.with("s:12/30", "d:12/30", "w:12/31", "s:120/300", "s:12/30/00");
    x.setMasked(1, 0, true);
    CHECK.due("25: kinds and masks do not matter", true, () -> x.areAlike(0, 1));
    CHECK.due("25: one note is different", false, () -> x.areAlike(0, 2));
    CHECK.due("25: the first note is different", false, () -> Orchestras.with("s:12", "s:32").areAlike(0, 1));
    CHECK.due("25: a column more", false, () -> x.areAlike(0, 3));
    CHECK.due("25: a row more", false, () -> x.areAlike(4, 0));
    CHECK.due("25: with itself", true, () -> x.areAlike(2, 2));
    CHECK.due("25: no second section", IndexOutOfBoundsException.class, () -> x.areAlike(0, 5));
    CHECK.due("25: no first section", IndexOutOfBoundsException.class, () -> x.areAlike(-1, 0));
    CHECK.due("25: neither section", IndexOutOfBoundsException.class, () -> x.areAlike(7, 7));
  }

  private static void sectionsThatAreNotThere() {
    ScoreOrchestra x = Orchestras.with("s:1", "s:2");
    for (int section : NO_SECTIONS) {
      String name = " of section " + section;
      CHECK.due("4: setNote" + name, IndexOutOfBoundsException.class, () -> x.setNote(section, 0, 0, 1));
      CHECK.due("4: a wrong note" + name, IndexOutOfBoundsException.class, () -> x.setNote(section, 0, 0, -1));
      CHECK.due("6: transpose" + name, IndexOutOfBoundsException.class, () -> x.transpose(section));
      CHECK.due("7: reverse" + name, IndexOutOfBoundsException.class, () -> x.reverse(section));
      CHECK.due("8: raise" + name, IndexOutOfBoundsException.class, () -> x.raise(section, 1));
      CHECK.due("20: note" + name, IndexOutOfBoundsException.class, () -> x.note(section, 0, 0));
      CHECK.due("24: isSymmetric" + name, IndexOutOfBoundsException.class, () -> x.isSymmetric(section));
      CHECK.due("25: areAlike" + name, IndexOutOfBoundsException.class, () -> x.areAlike(1, section));
    }
  }
}
