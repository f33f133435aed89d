import java.util.NoSuchElementException;
import java.util.function.Function;
import java.util.function.Supplier;

// The paragraph "Exceptions".
final class RefusalBoundaries {
  private static final Class<?> INDEX = IndexOutOfBoundsException.class;
  private static final Class<?> ARGUMENT = IllegalArgumentException.class;
  private static final Class<?> STATE = IllegalStateException.class;
  private static final Class<?> ELEMENT = NoSuchElementException.class;

  private final Sentences s;

  RefusalBoundaries(Sentences sentences) {
    s = sentences;
  }

  void tell() {
    s.term("A method that throws an exception changes nothing, unless its description says otherwise.");
    refusedChangesChangeNothing();
    refusedQuestionsChangeNothing();
    refusedCallsOnNewObjectsChangeNothing();
    refusedCharactersChangeNothing();
    theFirstExceptionIsThrown();
  }

  private void refusedChangesChangeNothing() {
    refuses("addSection of a wrong kind", ARGUMENT, x -> x.addSection('x', 1, 1));
    refuses("addSection of 0 rows", ARGUMENT, x -> x.addSection('s', 0, 1));
    refuses("addSection of 7 columns", ARGUMENT, x -> x.addSection('s', 1, 7));
    refuses("addSection of a sixth", STATE, RefusalBoundaries::five, x -> x.addSection('s', 1, 1));
    for (int section : new int[] {-1, 2}) {
      refuses("removeSection " + section, INDEX, x -> x.removeSection(section));
      refuses("setNote of section " + section, INDEX, x -> x.setNote(section, 0, 0, 1));
      refuses("setMasked of section " + section, INDEX, x -> x.setMasked(section, 0, true));
      refuses("transpose " + section, INDEX, x -> x.transpose(section));
      refuses("reverse " + section, INDEX, x -> x.reverse(section));
      refuses("raise " + section, INDEX, x -> x.raise(section, 0));
    }
    refuses("setNote of row 2", INDEX, x -> x.setNote(0, 2, 0, 1));
    refuses("setNote of column -1", INDEX, x -> x.setNote(0, 0, -1, 1));
    refuses("setNote to 10", ARGUMENT, x -> x.setNote(0, 0, 0, 10));
    refuses("setNote to -1", ARGUMENT, x -> x.setNote(0, 0, 0, -1));
    refuses("setMasked of column 6", ARGUMENT, x -> x.setMasked(0, 6, true));
    refuses("setMasked of column -1", ARGUMENT, x -> x.setMasked(0, -1, false));
    refuses("raise by 10", ARGUMENT, x -> x.raise(0, 10));
    refuses("raise by -10", ARGUMENT, x -> x.raise(0, -10));
    refuses("raise above 9", UnsupportedOperationException.class, x -> x.raise(0, 1));
    refuses("raise below 1", UnsupportedOperationException.class, x -> x.raise(0, -1));
    refuses("setTempo 0", ARGUMENT, x -> x.setTempo(0));
    refuses("setTempo 6", ARGUMENT, x -> x.setTempo(6));
    refuses("setLimit 0", ARGUMENT, x -> x.setLimit(0));
    refuses("setLimit 100", ARGUMENT, x -> x.setLimit(100));
    refuses("conductBeats 0", ARGUMENT, x -> x.conductBeats(0));
    refuses("conductBeats 41", ARGUMENT, x -> x.conductBeats(41));
  }

  private void refusedQuestionsChangeNothing() {
    for (int section : new int[] {-1, 2}) {
      refuses("kind of " + section, INDEX, x -> x.kind(section));
      refuses("rows of " + section, INDEX, x -> x.rows(section));
      refuses("columns of " + section, INDEX, x -> x.columns(section));
      refuses("note of " + section, INDEX, x -> x.note(section, 0, 0));
      refuses("isMasked of " + section, INDEX, x -> x.isMasked(section, 0));
      refuses("fatigue of " + section, INDEX, x -> x.fatigue(section));
      refuses("restingBeats of " + section, INDEX, x -> x.restingBeats(section));
      refuses("isSymmetric of " + section, INDEX, x -> x.isSymmetric(section));
      refuses("areAlike of " + section, INDEX, x -> x.areAlike(0, section));
      refuses("columnVolume of " + section, INDEX, x -> x.columnVolume(section, 0));
      refuses("columnVolumeByTransposing of " + section, INDEX, x -> x.columnVolumeByTransposing(section, 0));
      refuses("nextVolume of " + section, INDEX, x -> x.nextVolume(section));
      refuses("playedVolume of " + section, INDEX, x -> x.playedVolume(section));
      refuses("maskedShare of " + section, INDEX, x -> x.maskedShare(section));
      refuses("renderScore of " + section, INDEX, x -> x.renderScore(section));
      refuses("renderMask of " + section, INDEX, x -> x.renderMask(section));
    }
    refuses("note of column 2", INDEX, x -> x.note(0, 0, 2));
    refuses("isMasked of column 6", ARGUMENT, x -> x.isMasked(0, 6));
    refuses("columnVolume of column 2", INDEX, x -> x.columnVolume(0, 2));
    refuses("columnVolumeByTransposing of column 2", INDEX, x -> x.columnVolumeByTransposing(0, 2));
    refuses("noteVolume of 10", ARGUMENT, x -> x.noteVolume('s', 10));
    refuses("soundCount of 0", ARGUMENT, x -> x.soundCount('s', 0));
    refuses("totalWithin -1", ARGUMENT, x -> x.totalWithin(-1));
    refuses("totalWithin 61", ARGUMENT, x -> x.totalWithin(61));
    refuses("beatsUntilBreak without a break", ELEMENT, x -> x.beatsUntilBreak());
    refuses("loggedTotal 10", ELEMENT, x -> x.loggedTotal(10));
    refuses("sectionByVolume 2", ELEMENT, x -> x.sectionByVolume(2));
    refuses("noteBySounds 9", ELEMENT, x -> x.noteBySounds(9));
    refuses("outputAt the end", INDEX, x -> x.outputAt(7));
  }

  private void refusedCallsOnNewObjectsChangeNothing() {
    refuses("undo", STATE, ScoreOrchestra::new, ScoreOrchestra::undo);
    refuses("restore", STATE, ScoreOrchestra::new, ScoreOrchestra::restore);
    refuses("greatestTotal", ELEMENT, ScoreOrchestra::new, ScoreOrchestra::greatestTotal);
    refuses("meanTotal", ArithmeticException.class, ScoreOrchestra::new, ScoreOrchestra::meanTotal);
    refuses("errorPosition", ELEMENT, ScoreOrchestra::new, ScoreOrchestra::errorPosition);
    refuses("failedCommand", ELEMENT, ScoreOrchestra::new, ScoreOrchestra::failedCommand);
  }

  private void refusedCharactersChangeNothing() {
    refuses("type of code 31", ARGUMENT, x -> x.type((char) 31));
    refuses("type of code 127", ARGUMENT, x -> x.type((char) 127));
    refuses("type into a full buffer", STATE, RefusalBoundaries::fullBuffer, x -> x.type('a'));
    refuses("type of code 31 into a full buffer", ARGUMENT, RefusalBoundaries::fullBuffer, x -> x.type((char) 31));
  }

  private void refuses(String name, Class<?> thrown, Function<ScoreOrchestra, Object> call) {
    refuses(name, thrown, RefusalBoundaries::two, call);
  }

  // Two objects are made alike; after the refused call they must still answer alike to all that can be asked.
  private void refuses(String name, Class<?> thrown, Supplier<ScoreOrchestra> maker,
      Function<ScoreOrchestra, Object> call) {
    ScoreOrchestra called = maker.get();
    s.due(name, thrown, () -> call.apply(called));
    s.due(name + " changes nothing", answers(maker.get()), () -> answers(called));
  }

  // Ten changes, the latest of them beats; a snapshot, an output text, a begun script, and two scripts that failed.
  private static ScoreOrchestra two() {
    ScoreOrchestra x = Orchestras.with("s:91/05", "w:3");
    x.save();
    x.setMasked(0, 1, true);
    x.setLimit(8);
    x.conductBeats(13);
    x.setLimit(99);
    Check.outcome(() -> Orchestras.run(x, "wave;drop 5"));
    Check.outcome(() -> Orchestras.run(x, "wag"));
    Orchestras.type(x, "tempo ");
    x.renderScore(0);
    return x;
  }

  private static ScoreOrchestra five() {
    return Orchestras.with("s:1", "w:2", "d:3", "s:4", "w:5");
  }

  private static ScoreOrchestra fullBuffer() {
    ScoreOrchestra x = two();
    Check.outcome(x::runScript);
    Orchestras.type(x, "beat 40;".repeat(7) + "wave");
    return x;
  }

  // All that can be asked, at last by calls that change the object.
  private static String answers(ScoreOrchestra x) {
    StringBuilder answers = new StringBuilder();
    for (int i = 0; i < 8; i++) {
      int index = i;
      answers.append(Check.outcome(() -> x.outputAt(index))).append(' ');
    }
    answers.append(Check.outcome(x::errorPosition)).append(' ').append(Check.outcome(x::failedCommand)).append(' ')
        .append(Views.of(x));
    for (int i = 0; i < 9; i++) {
      answers.append("; undo ").append(Check.outcome(x::undo)).append(": ").append(Views.inShort(x));
    }
    answers.append("; type ").append(Check.outcome(() -> x.type('4'))).append("; run ")
        .append(Check.outcome(x::runScript)).append(": ").append(Views.inShort(x));
    return answers.append("; restore ").append(Check.outcome(x::restore)).append(": ").append(Views.of(x)).toString();
  }

  private void theFirstExceptionIsThrown() {
    s.term("If several exceptions apply, the one that is listed first is thrown.");
    ScoreOrchestra full = five();
    s.due("addSection of a wrong kind, with five", ARGUMENT, () -> full.addSection('x', 1, 1));
    s.due("addSection of 0 rows, with five", ARGUMENT, () -> full.addSection('s', 0, 1));
    s.due("addSection of 7 columns, with five", ARGUMENT, () -> full.addSection('s', 1, 7));
    s.due("addSection, with five", STATE, () -> full.addSection('s', 1, 1));

    ScoreOrchestra x = two();
    s.due("setNote of no section, to 10", INDEX, () -> x.setNote(2, 0, 0, 10));
    s.due("setNote of no row, to 10", INDEX, () -> x.setNote(0, 2, 0, 10));
    s.due("setNote of no column, to -1", INDEX, () -> x.setNote(0, 0, 2, -1));
    s.due("setNote to -1", ARGUMENT, () -> x.setNote(0, 0, 0, -1));
    s.due("setMasked of no section, column 6", INDEX, () -> x.setMasked(2, 6, true));
    s.due("setMasked of section -1, column -1", INDEX, () -> x.setMasked(-1, -1, false));
    s.due("isMasked of no section, column 6", INDEX, () -> x.isMasked(2, 6));
    s.due("isMasked of section -1, column -1", INDEX, () -> x.isMasked(-1, -1));
    s.due("raise of no section, by 10", INDEX, () -> x.raise(2, 10));
    s.due("raise by 10, which would be above 9 as well", ARGUMENT, () -> x.raise(0, 10));
    s.due("raise by -10, which would be below 1 as well", ARGUMENT, () -> x.raise(0, -10));
    s.due("raise by 9, which would be above 9", UnsupportedOperationException.class, () -> x.raise(0, 9));

    ScoreOrchestra typed = fullBuffer();
    s.due("type of code 31 into a full buffer", ARGUMENT, () -> typed.type((char) 31));
    s.due("type of code 127 into a full buffer", ARGUMENT, () -> typed.type((char) 127));
    s.due("type of code 126 into a full buffer", STATE, () -> typed.type((char) 126));

    ScoreOrchestra script = two();
    Check.outcome(script::runScript);
    s.due("runScript of a command that fails, without the form", ARGUMENT,
        () -> Orchestras.run(script, "wave;wave;drop 9;x"));
    s.due("its error position", 17, script::errorPosition);
    s.due("the command that failed before", 1, script::failedCommand);
  }
}
