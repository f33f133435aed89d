import java.util.NoSuchElementException;

// Promises 50 to 53: the script buffer, and scripts.
public final class ScriptsTest {
  private static final Check CHECK = new Check("ScriptsTest");

  public static void main(String[] args) {
    charactersAreTyped();
    eachCommandCallsItsMethod();
    argumentsStandInOrder();
    numbersHaveOneOrTwoDigits();
    scriptsWithoutTheForm();
    commandsThatFail();
    nothingOfAFailedScriptStays();
    theBufferIsEmptyAfterwards();
    errorsAreRemembered();
    longScriptsRun();
    CHECK.end();
  }

  private static void charactersAreTyped() {
    ScoreOrchestra x = new ScoreOrchestra();
    CHECK.due("50: code 31", IllegalArgumentException.class, () -> x.type((char) 31));
    CHECK.due("50: code 127", IllegalArgumentException.class, () -> x.type((char) 127));
    CHECK.due("50: code 0", IllegalArgumentException.class, () -> x.type((char) 0));
    CHECK.due("50: code 65535", IllegalArgumentException.class, () -> x.type((char) 65535));
    CHECK.due("50: code 32", 1, () -> x.type((char) 32));
    CHECK.due("50: code 126", 2, () -> x.type((char) 126));
    CHECK.due("50: sixty characters", 60, () -> Orchestras.type(x, "a".repeat(58)));
    CHECK.due("50: one too many", IllegalStateException.class, () -> x.type('a'));
    CHECK.due("50: a wrong one too many", IllegalArgumentException.class, () -> x.type((char) 127));
    CHECK.due("51: not a script", IllegalArgumentException.class, x::runScript);
    CHECK.due("50: the buffer is empty again", 1, () -> x.type('a'));
  }

  private static void eachCommandCallsItsMethod() {
    ScoreOrchestra x = new ScoreOrchestra();
    CHECK.due("51: add", 1, () -> Orchestras.run(x, "add w23"));
    CHECK.due("51: add, the section", "w:000/000", () -> Orchestras.score(x, 0));
    CHECK.due("51: note", 1, () -> Orchestras.run(x, "note 0 12=7"));
    CHECK.due("51: note, the score", "w:000/007", () -> Orchestras.score(x, 0));
    CHECK.due("51: flip", 1, () -> Orchestras.run(x, "flip 0"));
    CHECK.due("51: flip, the score", "w:00/00/07", () -> Orchestras.score(x, 0));
    CHECK.due("51: turn", 1, () -> Orchestras.run(x, "turn 0"));
    CHECK.due("51: turn, the score", "w:00/00/70", () -> Orchestras.score(x, 0));
    CHECK.due("51: raise", 1, () -> Orchestras.run(x, "raise 0 +2"));
    CHECK.due("51: raise, the score", "w:00/00/90", () -> Orchestras.score(x, 0));
    CHECK.due("51: raise by a negative number", 1, () -> Orchestras.run(x, "raise 0 -8"));
    CHECK.due("51: raise by a negative number, the score", "w:00/00/10", () -> Orchestras.score(x, 0));
    CHECK.due("51: raise by -0", 1, () -> Orchestras.run(x, "raise 0 -0"));
    CHECK.due("51: mask", 1, () -> Orchestras.run(x, "mask 0 1+"));
    CHECK.due("51: mask, the mask", ".xf0", () -> Orchestras.mask(x, 0));
    CHECK.due("51: mask taken out", 1, () -> Orchestras.run(x, "mask 0 1-"));
    CHECK.due("51: mask taken out, the mask", "..f0", () -> Orchestras.mask(x, 0));
    CHECK.due("51: tempo", 1, () -> Orchestras.run(x, "tempo 5"));
    CHECK.due("15: tempo", 5, x::tempo);
    CHECK.due("51: limit", 1, () -> Orchestras.run(x, "limit 41"));
    CHECK.due("16: limit", 41, x::limit);
    CHECK.due("51: wave", 1, () -> Orchestras.run(x, "wave"));
    CHECK.due("13: wave", 5, x::beatCount);
    CHECK.due("51: beat", 1, () -> Orchestras.run(x, "beat"));
    CHECK.due("13: beat", 6, x::beatCount);
    CHECK.due("51: drop", 1, () -> Orchestras.run(x, "drop 0"));
    CHECK.due("14: drop", 0, x::sectionCount);
    CHECK.due("51: add strings and drums", 2, () -> Orchestras.run(x, "add s11;add d66"));
    CHECK.due("17: strings", 's', () -> x.kind(0));
    CHECK.due("17: drums", 'd', () -> x.kind(1));
  }

  private static void argumentsStandInOrder() {
    ScoreOrchestra x = new ScoreOrchestra();
    CHECK.due("51: three commands", 3, () -> Orchestras.run(x, "add s11;add d46;note 1 35=8"));
    CHECK.due("20: the note", 8, () -> x.note(1, 3, 5));
    CHECK.due("51: in another section", 4, () -> Orchestras.run(x, "mask 1 5+;raise 1 -7;turn 1;drop 0"));
    CHECK.due("47: the score", "d:000000/000000/000000/100000", () -> Orchestras.score(x, 0));
    CHECK.due("48: the mask", ".....xf0", () -> Orchestras.mask(x, 0));
  }

  private static void numbersHaveOneOrTwoDigits() {
    ScoreOrchestra x = new ScoreOrchestra();
    CHECK.due("51: one digit", 2, () -> Orchestras.run(x, "beat 7;limit 9"));
    CHECK.due("13: one digit", 7, x::beatCount);
    CHECK.due("16: one digit", 9, x::limit);
    CHECK.due("51: two digits", 2, () -> Orchestras.run(x, "limit 99;beat 40"));
    CHECK.due("13: two digits", 47, x::beatCount);
    CHECK.due("16: two digits", 99, x::limit);
    CHECK.due("51: a zero before", 2, () -> Orchestras.run(x, "limit 05;beat 03"));
    CHECK.due("13: a zero before", 50, x::beatCount);
    CHECK.due("16: a zero before", 5, x::limit);
  }

  private static void scriptsWithoutTheForm() {
    wrongAt(0, "");
    wrongAt(0, " wave");
    wrongAt(0, "Wave");
    wrongAt(0, ";wave");
    wrongAt(1, "w");
    wrongAt(1, "tt");
    wrongAt(2, "te");
    wrongAt(2, "tu");
    wrongAt(1, "ta");
    wrongAt(3, "wav");
    wrongAt(4, "wave ");
    wrongAt(4, "waves");
    wrongAt(5, "wave;");
    wrongAt(5, "wave;;");
    wrongAt(5, "wave; wave");
    wrongAt(4, "beat2");
    wrongAt(5, "beat ");
    wrongAt(5, "beat  2");
    wrongAt(5, "beat ;");
    wrongAt(7, "beat 123");
    wrongAt(6, "beat 1 ");
    wrongAt(6, "limit ");
    wrongAt(5, "limit");
    wrongAt(5, "limit9");
    wrongAt(6, "limit -1");
    wrongAt(8, "limit 100");
    wrongAt(3, "add");
    wrongAt(4, "add x11");
    wrongAt(4, "add 11");
    wrongAt(5, "add s");
    wrongAt(5, "add sx1");
    wrongAt(6, "add s1");
    wrongAt(7, "add s111");
    wrongAt(5, "drop d");
    wrongAt(6, "drop 00");
    wrongAt(4, "drop");
    wrongAt(6, "note 0");
    wrongAt(6, "note 00 1=1");
    wrongAt(8, "note 0 0 0=1");
    wrongAt(9, "note 0 001");
    wrongAt(9, "note 0 00");
    wrongAt(10, "note 0 00=");
    wrongAt(10, "note 0 00=x");
    wrongAt(11, "note 0 00=10");
    wrongAt(7, "mask 0 +");
    wrongAt(8, "mask 0 1");
    wrongAt(8, "mask 0 1=");
    wrongAt(9, "mask 0 1++");
    wrongAt(8, "raise 0 1");
    wrongAt(8, "raise 0 ");
    wrongAt(9, "raise 0 +");
    wrongAt(9, "raise 0 +-1");
    wrongAt(10, "raise 0 -11");
    wrongAt(6, "tempo x");
    wrongAt(7, "tempo 12");
    wrongAt(5, "flip a");
    wrongAt(5, "turn a");
    wrongAt(10, "wave;tempo");
    wrongAt(5, "drop x;note");
    wrongAt(58, "wave;".repeat(11) + "wavwa");
    wrongAt(60, "wave;".repeat(12));
  }

  private static void wrongAt(int position, String script) {
    ScoreOrchestra x = Orchestras.with("s:1");
    CHECK.due("51: " + script, IllegalArgumentException.class, () -> Orchestras.run(x, script));
    CHECK.due("52: " + script, position, x::errorPosition);
    CHECK.due("53: " + script, NoSuchElementException.class, x::failedCommand);
    CHECK.due("13: " + script, 0, x::beatCount);
  }

  private static void commandsThatFail() {
    failsAt(0, "drop 1");
    failsAt(0, "add s01");
    failsAt(0, "add s17");
    failsAt(0, "note 1 00=1");
    failsAt(0, "note 0 01=1");
    failsAt(0, "mask 0 6+");
    failsAt(0, "mask 1 0-");
    failsAt(0, "flip 9");
    failsAt(0, "turn 1");
    failsAt(0, "raise 0 +9");
    failsAt(0, "raise 0 -1");
    failsAt(0, "raise 1 +0");
    failsAt(0, "tempo 0");
    failsAt(0, "tempo 6");
    failsAt(0, "limit 0");
    failsAt(0, "limit 00");
    failsAt(0, "beat 0");
    failsAt(0, "beat 41");
    failsAt(0, "beat 99");
    failsAt(2, "wave;wave;beat 41;drop 7");
    failsAt(4, "add s11;add s11;add s11;add s11;add s11");
    failsAt(1, "drop 0;drop 0");
  }

  private static void failsAt(int command, String script) {
    ScoreOrchestra x = Orchestras.with("s:1");
    CHECK.due("51: " + script, IllegalStateException.class, () -> Orchestras.run(x, script));
    CHECK.due("53: " + script, command, x::failedCommand);
    CHECK.due("52: " + script, NoSuchElementException.class, x::errorPosition);
    CHECK.due("14: " + script, 1, x::sectionCount);
    CHECK.due("13: " + script, 0, x::beatCount);
  }

  private static void nothingOfAFailedScriptStays() {
    ScoreOrchestra x = Orchestras.with("s:9", "w:12");
    x.setLimit(5);
    x.conductBeats(3);
    CHECK.due("51: fails at last", IllegalStateException.class,
        () -> Orchestras.run(x, "add d11;drop 0;limit 7;mask 0 1+;tempo 3;wave;flip 5"));
    CHECK.due("53: the seventh command", 6, x::failedCommand);
    CHECK.due("51: no section was added", 2, x::sectionCount);
    CHECK.due("51: no section was removed", "s:9", () -> Orchestras.score(x, 0));
    CHECK.due("51: the rest is the same", ".f0r2", () -> Orchestras.mask(x, 0));
    CHECK.due("51: the mask is the same", "..f0", () -> Orchestras.mask(x, 1));
    CHECK.due("51: the limit is the same", 5, x::limit);
    CHECK.due("51: the tempo is the same", 2, x::tempo);
    CHECK.due("51: no beat was played", 3, x::beatCount);
    CHECK.due("51: the sounds are the same", 3, () -> x.soundCount('s', 9));
    CHECK.due("51: the total is the same", 27L + 8L, x::totalVolume);
    CHECK.due("51: the log is the same", 11, () -> x.loggedTotal(0));
    CHECK.due("54: it cannot be undone, the beats can", 6, x::undo);
    CHECK.due("13: no beat any more", 0, x::beatCount);
  }

  private static void theBufferIsEmptyAfterwards() {
    ScoreOrchestra x = new ScoreOrchestra();
    Orchestras.run(x, "wave");
    CHECK.due("51: empty after a script", 1, () -> x.type('d'));
    CHECK.due("51: without the form", IllegalArgumentException.class, x::runScript);
    CHECK.due("51: empty after that", 6, () -> Orchestras.type(x, "drop 0"));
    CHECK.due("51: a failed command", IllegalStateException.class, x::runScript);
    CHECK.due("51: empty after that too", 4, () -> Orchestras.type(x, "beat"));
    CHECK.due("51: a script again", 1, x::runScript);
    CHECK.due("51: an empty buffer has not the form", IllegalArgumentException.class, x::runScript);
    CHECK.due("52: of the empty one", 0, x::errorPosition);
  }

  private static void errorsAreRemembered() {
    ScoreOrchestra x = new ScoreOrchestra();
    CHECK.due("52: no script", NoSuchElementException.class, x::errorPosition);
    CHECK.due("53: no script", NoSuchElementException.class, x::failedCommand);
    CHECK.due("51: without the form", IllegalArgumentException.class, () -> Orchestras.run(x, "wave;x"));
    CHECK.due("51: fails", IllegalStateException.class, () -> Orchestras.run(x, "wave;wave;drop 3"));
    Orchestras.run(x, "wave");
    CHECK.due("52: after other scripts", 5, x::errorPosition);
    CHECK.due("53: after another script", 2, x::failedCommand);
    x.undo();
    x.save();
    x.restore();
    CHECK.due("52: after undo and restore", 5, x::errorPosition);
    CHECK.due("53: after undo and restore", 2, x::failedCommand);
    CHECK.due("51: without the form again", IllegalArgumentException.class, () -> Orchestras.run(x, "drop 0;"));
    CHECK.due("51: fails again", IllegalStateException.class, () -> Orchestras.run(x, "drop 0"));
    CHECK.due("52: the latest", 7, x::errorPosition);
    CHECK.due("53: the latest", 0, x::failedCommand);
  }

  private static void longScriptsRun() {
    ScoreOrchestra x = new ScoreOrchestra();
    CHECK.due("51: twelve commands", 12, () -> Orchestras.run(x, "wave;".repeat(11) + "wave"));
    CHECK.due("13: twelve waves", 24, x::beatCount);
    CHECK.due("54: one change", 0, x::undo);
    CHECK.due("13: none is left", 0, x::beatCount);
    CHECK.due("51: sixty characters", 8, () -> Orchestras.run(x, "beat 40;".repeat(7) + "wave"));
    CHECK.due("13: 282 beats", 282, x::beatCount);
  }
}
