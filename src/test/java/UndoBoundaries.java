import java.util.NoSuchElementException;
import java.util.function.Function;

// The paragraph "Changes" and promises 54 to 56.
final class UndoBoundaries {
  private final Sentences s;

  UndoBoundaries(Sentences sentences) {
    s = sentences;
  }

  void tell() {
    changesAreCallsThatReturn();
    eightChangesCanBeUndone();
    undoCoversTheState();
    undo();
    save();
    restore();
  }

  private void changesAreCallsThatReturn() {
    s.term("A change is a call of addSection, removeSection, setNote, setMasked, transpose, reverse, raise, setTempo, "
        + "setLimit, conductWave, conductBeats or runScript that returns normally, even if the state is the same "
        + "afterwards.");
    isChange("addSection", x -> x.addSection('s', 1, 1));
    isChange("removeSection", x -> x.removeSection(1));
    isChange("setNote to the same", x -> x.setNote(0, 0, 0, 9));
    isChange("setMasked to the same", x -> x.setMasked(0, 0, false));
    isChange("transpose of a single note", x -> x.transpose(1));
    isChange("reverse of a single note", x -> x.reverse(1));
    isChange("raise by 0", x -> x.raise(0, 0));
    isChange("setTempo to the same", x -> x.setTempo(2));
    isChange("setLimit to the same", x -> x.setLimit(30));
    isChange("conductWave", ScoreOrchestra::conductWave);
    isChange("conductBeats", x -> x.conductBeats(40));
    isChange("a script of one command", x -> Orchestras.run(x, "tempo 2"));
    isChange("a script of twelve commands", x -> Orchestras.run(x, "wave;".repeat(11) + "wave"));
    isNoChange("type", x -> x.type('w'));
    isNoChange("save", ScoreOrchestra::save);
    isNoChange("renderScore", x -> x.renderScore(0));
    isNoChange("renderMask", x -> x.renderMask(0));
    isNoChange("totalWithin", x -> x.totalWithin(60));
    isNoChange("isSymmetric", x -> x.isSymmetric(0));
    isNoChange("columnVolumeByTransposing", x -> x.columnVolumeByTransposing(0, 0));
    isNoChange("addSection that is refused", x -> x.addSection('x', 1, 1));
    isNoChange("removeSection that is refused", x -> x.removeSection(2));
    isNoChange("setNote that is refused", x -> x.setNote(0, 0, 0, 10));
    isNoChange("setMasked that is refused", x -> x.setMasked(0, 6, true));
    isNoChange("transpose that is refused", x -> x.transpose(2));
    isNoChange("reverse that is refused", x -> x.reverse(2));
    isNoChange("raise that is refused", x -> x.raise(0, 1));
    isNoChange("setTempo that is refused", x -> x.setTempo(6));
    isNoChange("setLimit that is refused", x -> x.setLimit(0));
    isNoChange("conductBeats that is refused", x -> x.conductBeats(41));
    isNoChange("a script without the form", x -> Orchestras.run(x, "wave;x"));
    isNoChange("a script with a failed command", x -> Orchestras.run(x, "wave;drop 9"));
    isNoChange("restore that is refused", ScoreOrchestra::restore);
  }

  // There are four changes before.
  private static ScoreOrchestra two() {
    return Orchestras.with("s:9", "w:6");
  }

  private void isChange(String name, Function<ScoreOrchestra, Object> change) {
    ScoreOrchestra x = two();
    String before = Views.of(x);
    change.apply(x);
    s.due(name + " can be undone, and those before", 4, x::undo);
    s.due("the state before " + name, before, () -> Views.of(x));
  }

  private void isNoChange(String name, Function<ScoreOrchestra, Object> call) {
    ScoreOrchestra x = two();
    Check.outcome(() -> call.apply(x));
    s.due(name + " is no change, the one before is undone", 3, x::undo);
    s.due(name + " is no change, the one before is not there", 0, () -> x.note(1, 0, 0));
  }

  private void eightChangesCanBeUndone() {
    s.term("The latest 8 changes can be undone, the latest one first.");
    for (int number : new int[] {0, 1, 7, 8, 9, 17, 18, 99}) {
      ScoreOrchestra x = new ScoreOrchestra();
      for (int limit = 1; limit <= number; limit++) {
        x.setLimit(limit);
      }
      int left = Math.min(number, 8);
      for (int i = 1; i <= left; i++) {
        int undone = i;
        s.due(undone + " of " + number + " undone", left - undone, x::undo);
        s.due("limit after " + undone + " of " + number, undone == number ? 30 : number - undone, x::limit);
      }
      s.due("no more of " + number, IllegalStateException.class, x::undo);
      s.due("limit after all of " + number, number <= 8 ? 30 : number - 8, x::limit);
    }
  }

  private void undoCoversTheState() {
    s.term("Undo and the snapshot cover everything except the script buffer, the error position, the index of the "
        + "failed command, the output text and the snapshot itself.");
    for (boolean isUndone : new boolean[] {true, false}) {
      String name = isUndone ? "undone" : "restored";
      ScoreOrchestra x = Orchestras.with("s:91/20", "w:6");
      x.setMasked(1, 0, true);
      x.setLimit(5);
      x.conductBeats(5);
      x.save();
      String before = Views.of(x);
      Orchestras.run(x, "wave;drop 0;add d22;mask 0 0-;tempo 5;limit 1;wave;turn 1");
      String after = Views.of(x);
      s.due("all of it was changed", false, () -> before.equals(after));
      Check.outcome(() -> Orchestras.run(x, "wave;drop 0;drop 7"));
      Check.outcome(() -> Orchestras.run(x, "beat x"));
      Orchestras.type(x, "bea");
      x.renderScore(1);
      s.due(name, isUndone ? 7 : 2, () -> isUndone ? x.undo() : x.restore());
      s.due(name + ", the state", before, () -> Views.of(x));
      s.due(name + ", not the output text", "d:00/00", () -> Orchestras.output(x, 7));
      s.due(name + ", not the error position", 5, x::errorPosition);
      s.due(name + ", not the index of the failed command", 2, x::failedCommand);
      s.due(name + ", not the script buffer", 4, () -> x.type('t'));
      s.due(name + ", the script is run", 1, x::runScript);
      s.due(name + ", not the snapshot", 2, x::restore);
      s.due(name + ", the state of the snapshot", before, () -> Views.of(x));
    }
    ScoreOrchestra x = new ScoreOrchestra();
    x.addSection('s', 1, 1);
    x.save();
    x.undo();
    s.due("the snapshot holds a change that is undone", 1, x::restore);
    s.due("its section is there again", 's', () -> x.kind(0));
  }

  private void undo() {
    s.promise(54, "Undoes the latest change that has not been undone.");
    ScoreOrchestra x = new ScoreOrchestra();
    x.setLimit(1);
    x.setLimit(2);
    x.setLimit(3);
    x.undo();
    s.due("the latest", 2, x::limit);
    x.undo();
    s.due("the one before", 1, x::limit);
    x.setLimit(9);
    x.undo();
    s.due("a new one", 1, x::limit);
    x.undo();
    s.due("the first one, which had not been undone", 30, x::limit);

    s.promise(54, "Returns the number of changes that can still be undone.");
    ScoreOrchestra eight = new ScoreOrchestra();
    for (int limit = 1; limit <= 8; limit++) {
      eight.setLimit(limit);
    }
    s.due("of eight", 7, eight::undo);
    s.due("of seven", 6, eight::undo);
    eight.setTempo(5);
    s.due("of seven again", 6, eight::undo);
    for (int left = 5; left >= 0; left--) {
      s.due("of " + (left + 1), left, eight::undo);
    }

    s.promise(54, "Throws IllegalStateException if there is nothing to undo");
    s.due("all eight are undone", IllegalStateException.class, eight::undo);
    s.due("once more", IllegalStateException.class, eight::undo);
    s.due("a new object", IllegalStateException.class, () -> new ScoreOrchestra().undo());
    s.due("nothing but what is no change", IllegalStateException.class, () -> {
      ScoreOrchestra y = new ScoreOrchestra();
      y.save();
      y.type('w');
      return y.undo();
    });
    eight.setTempo(5);
    s.due("one change after all are undone", 0, eight::undo);
  }

  private void save() {
    s.promise(55, "Takes a snapshot, which replaces an earlier one.");
    ScoreOrchestra x = two();
    x.save();
    x.removeSection(0);
    x.save();
    x.setNote(0, 0, 0, 1);
    x.restore();
    s.due("the later one, its sections", 1, x::sectionCount);
    s.due("the later one, its notes", "w:6", () -> Orchestras.score(x, 0));
    x.setNote(0, 0, 0, 2);
    s.due("a change does not reach it", 1, x::restore);
    s.due("its notes again", "w:6", () -> Orchestras.score(x, 0));

    s.promise(55, "Returns the number of sections.");
    ScoreOrchestra y = new ScoreOrchestra();
    for (int i = 0; i <= 5; i++) {
      int count = i;
      s.due("of " + count, count, y::save);
      Check.outcome(() -> y.addSection('d', 1, 1));
    }
  }

  private void restore() {
    s.promise(56, "Restores the snapshot, which is kept.");
    ScoreOrchestra x = two();
    x.conductBeats(3);
    x.save();
    String before = Views.of(x);
    for (int i = 1; i <= 3; i++) {
      x.conductBeats(40);
      x.setNote(0, 0, 0, 1);
      x.restore();
      s.due("time " + i, before, () -> Views.of(x));
    }

    s.promise(56, "Afterwards there is nothing to undo.");
    s.due("after restore", IllegalStateException.class, x::undo);
    x.setTempo(5);
    s.due("one change after restore", 0, x::undo);
    s.due("no more", IllegalStateException.class, x::undo);
    for (int limit = 1; limit <= 9; limit++) {
      x.setLimit(limit);
    }
    x.restore();
    s.due("after nine changes and restore", IllegalStateException.class, x::undo);
    for (int limit = 1; limit <= 9; limit++) {
      x.setLimit(limit);
    }
    for (int left = 7; left >= 0; left--) {
      s.due("nine changes after restore, " + left + " are left", left, x::undo);
    }
    s.due("nine changes after restore, no more", IllegalStateException.class, x::undo);
    s.due("nine changes after restore, the first stays", 1, x::limit);

    s.promise(56, "Returns the number of sections after the call.");
    x.addSection('s', 1, 1);
    s.due("two", 2, x::restore);
    ScoreOrchestra empty = new ScoreOrchestra();
    empty.save();
    empty.addSection('s', 1, 1);
    s.due("none", 0, empty::restore);
    for (int i = 0; i < 5; i++) {
      empty.addSection('s', 1, 1);
    }
    empty.save();
    empty.removeSection(4);
    s.due("five", 5, empty::restore);

    s.promise(56, "Throws IllegalStateException if there is no snapshot");
    s.due("a new object", IllegalStateException.class, () -> new ScoreOrchestra().restore());
    ScoreOrchestra none = two();
    none.undo();
    s.due("undo takes none", IllegalStateException.class, none::restore);
    s.due("and nothing has changed", 2, none::undo);
    s.due("after save", 1, () -> {
      none.save();
      return none.restore();
    });
    s.due("no beat of it", NoSuchElementException.class, () -> none.loggedTotal(0));
  }
}
