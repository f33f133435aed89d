import java.util.NoSuchElementException;
import java.util.function.Function;

// Promises 54 to 56: undo and the snapshot.
public final class UndoTest {
  private static final Check CHECK = new Check("UndoTest");

  public static void main(String[] args) {
    eachChangeIsUndone();
    onlyChangesAreUndone();
    eightChangesAreUndone();
    changesAfterUndo();
    everythingIsUndone();
    fatigueIsUndone();
    greatestTotalsAreUndone();
    snapshotsAreRestored();
    whatIsNotCovered();
    CHECK.end();
  }

  private static void eachChangeIsUndone() {
    undoes("addSection", x -> x.addSection('d', 1, 1));
    undoes("removeSection", x -> x.removeSection(0));
    undoes("setNote", x -> x.setNote(0, 1, 1, 9));
    undoes("setMasked", x -> x.setMasked(0, 1, true));
    undoes("transpose", x -> x.transpose(0));
    undoes("reverse", x -> x.reverse(0));
    undoes("raise", x -> x.raise(0, 5));
    undoes("setTempo", x -> x.setTempo(4));
    undoes("setLimit", x -> x.setLimit(3));
    undoes("conductWave", ScoreOrchestra::conductWave);
    undoes("conductBeats", x -> x.conductBeats(7));
    undoes("runScript", x -> Orchestras.run(x, "limit 1;wave;drop 1"));
  }

  private static void undoes(String name, Function<ScoreOrchestra, Object> change) {
    ScoreOrchestra x = Orchestras.with("s:12/34", "w:5");
    String before = Views.of(x);
    change.apply(x);
    CHECK.due("54: " + name + " is a change", false, () -> Views.of(x).equals(before));
    CHECK.due("54: " + name + " is undone, those before are left", 7, x::undo);
    CHECK.due("54: the state before " + name, before, () -> Views.of(x));
  }

  private static void onlyChangesAreUndone() {
    ScoreOrchestra x = new ScoreOrchestra();
    CHECK.due("54: nothing to undo", IllegalStateException.class, x::undo);
    x.addSection('s', 1, 2);
    x.setTempo(2);
    x.nextTotal();
    x.totalWithin(60);
    x.renderScore(0);
    x.save();
    x.type('w');
    CHECK.due("54: a wrong call", IllegalArgumentException.class, () -> x.setTempo(9));
    CHECK.due("54: a wrong call of raise", IndexOutOfBoundsException.class, () -> x.raise(1, 1));
    CHECK.due("54: a wrong script", IllegalArgumentException.class, x::runScript);
    CHECK.due("54: a failed script", IllegalStateException.class, () -> Orchestras.run(x, "wave;drop 1"));
    CHECK.due("54: the same tempo is a change", 1, x::undo);
    CHECK.due("14: the section is still there", 1, x::sectionCount);
    CHECK.due("54: the section", 0, x::undo);
    CHECK.due("14: the section is gone", 0, x::sectionCount);
    CHECK.due("54: nothing more", IllegalStateException.class, x::undo);
    CHECK.due("54: nothing more at all", IllegalStateException.class, x::undo);
  }

  private static void eightChangesAreUndone() {
    ScoreOrchestra x = new ScoreOrchestra();
    for (int limit = 1; limit <= 10; limit++) {
      x.setLimit(limit);
    }
    for (int left = 7; left >= 0; left--) {
      int due = left;
      CHECK.due("54: " + left + " are left", due, x::undo);
      CHECK.due("16: " + left + " are left", due + 2, x::limit);
    }
    CHECK.due("54: only eight", IllegalStateException.class, x::undo);
    CHECK.due("16: the second is not undone", 2, x::limit);
  }

  private static void changesAfterUndo() {
    ScoreOrchestra x = new ScoreOrchestra();
    for (int limit = 1; limit <= 8; limit++) {
      x.setLimit(limit);
    }
    x.undo();
    x.undo();
    x.undo();
    x.setLimit(50);
    x.setLimit(51);
    CHECK.due("54: six are left", 6, x::undo);
    CHECK.due("16: the first new one", 50, x::limit);
    CHECK.due("54: five are left", 5, x::undo);
    CHECK.due("16: the old ones", 5, x::limit);
    CHECK.due("54: four are left", 4, x::undo);
    CHECK.due("16: the old ones before", 4, x::limit);
  }

  private static void everythingIsUndone() {
    ScoreOrchestra x = Orchestras.with("s:94", "w:12");
    x.setLimit(10);
    x.conductBeats(5);
    String before = Views.of(x);
    x.conductBeats(40);
    x.removeSection(0);
    x.conductBeats(12);
    CHECK.due("54: the removed section's beats", 7, x::undo);
    x.undo();
    x.undo();
    CHECK.due("54: the state of beat 5", before, () -> Views.of(x));
    CHECK.due("41: the log of beat 5", 11, () -> x.loggedTotal(4));
    CHECK.due("41: nothing older", NoSuchElementException.class, () -> x.loggedTotal(5));
    CHECK.due("46: consistent", true, x::isConsistent);
  }

  private static void fatigueIsUndone() {
    ScoreOrchestra x = Orchestras.with("s:9");
    x.setLimit(8);
    x.conductBeats(2);
    x.save();
    x.conductBeats(4);
    x.setNote(0, 0, 0, 1);
    x.undo();
    x.undo();
    CHECK.due("54: the fatigue after beat 2", 2, () -> x.fatigue(0));
    x.conductBeats(1);
    x.restore();
    CHECK.due("56: the fatigue after beat 2", 2, () -> x.fatigue(0));
    CHECK.due("56: the rest after beat 2", 0, () -> x.restingBeats(0));
    CHECK.due("56: the breaks after beat 2", 2, x::breakCount);
  }

  private static void greatestTotalsAreUndone() {
    ScoreOrchestra x = Orchestras.with("s:15");
    x.conductBeats(1);
    x.save();
    x.conductBeats(1);
    CHECK.due("40: of two beats", 5, x::greatestTotal);
    x.undo();
    CHECK.due("40: undone", 1, x::greatestTotal);
    x.conductBeats(1);
    x.restore();
    CHECK.due("40: restored", 1, x::greatestTotal);
  }

  private static void snapshotsAreRestored() {
    ScoreOrchestra x = new ScoreOrchestra();
    CHECK.due("56: no snapshot", IllegalStateException.class, x::restore);
    CHECK.due("55: without sections", 0, x::save);
    Orchestras.add(x, "s:9");
    x.setLimit(5);
    x.conductBeats(2);
    CHECK.due("56: no section", 0, x::restore);
    CHECK.due("56: nothing to undo", IllegalStateException.class, x::undo);
    CHECK.due("16: the limit of the snapshot", 30, x::limit);
    CHECK.due("13: the beats of the snapshot", 0, x::beatCount);
    Orchestras.add(x, "w:12");
    Orchestras.add(x, "s:3");
    x.conductBeats(4);
    String before = Views.of(x);
    CHECK.due("55: two sections", 2, x::save);
    x.removeSection(0);
    x.setNote(0, 0, 0, 9);
    CHECK.due("54: save is not a change", 7, x::undo);
    x.conductWave();
    CHECK.due("56: two sections", 2, x::restore);
    CHECK.due("56: the later snapshot", before, () -> Views.of(x));
    x.setTempo(5);
    x.setNote(0, 0, 0, 9);
    CHECK.due("54: changes after the snapshot", 1, x::undo);
    CHECK.due("56: the snapshot is kept", 2, x::restore);
    CHECK.due("56: once more", before, () -> Views.of(x));
    CHECK.due("56: nothing to undo again", IllegalStateException.class, x::undo);
  }

  private static void whatIsNotCovered() {
    ScoreOrchestra x = Orchestras.with("s:1");
    x.save();
    x.setNote(0, 0, 0, 5);
    x.renderScore(0);
    Orchestras.type(x, "wav");
    x.undo();
    CHECK.due("54: the output text stays", "s:5", () -> Orchestras.output(x, 3));
    CHECK.due("54: the script buffer stays", 4, () -> x.type('e'));
    x.restore();
    CHECK.due("56: the output text stays", '5', () -> x.outputAt(2));
    CHECK.due("56: the script buffer stays", 1, x::runScript);
    CHECK.due("54: the script is undone", 0, x::undo);
    CHECK.due("56: the snapshot stays after undo", 1, x::restore);
  }
}
