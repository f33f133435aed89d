import java.util.NoSuchElementException;
import java.util.function.Function;

// The paragraph "Scripts" and promises 50 to 53.
final class ScriptBoundaries {
  private static final String DIGITS = "0123456789";
  private static final String VERBS = "adnmftrlwb";

  // What has been typed, and the characters that can follow it in a script.
  private static final String[][] FOLLOWERS = {
      {"", VERBS}, {"a", "d"}, {"ad", "d"}, {"add", " "}, {"add ", "swd"}, {"add w", DIGITS}, {"add d1", DIGITS},
      {"add s11", ";"}, {"d", "r"}, {"dr", "o"}, {"dro", "p"}, {"drop", " "}, {"drop ", DIGITS}, {"drop 9", ";"},
      {"n", "o"}, {"no", "t"}, {"not", "e"}, {"note", " "}, {"note ", DIGITS}, {"note 0", " "}, {"note 0 ", DIGITS},
      {"note 0 0", DIGITS}, {"note 0 00", "="}, {"note 0 00=", DIGITS}, {"note 0 00=0", ";"}, {"m", "a"}, {"ma", "s"},
      {"mas", "k"}, {"mask", " "}, {"mask ", DIGITS}, {"mask 0", " "}, {"mask 0 ", DIGITS}, {"mask 0 5", "+-"},
      {"mask 0 5+", ";"}, {"mask 0 5-", ";"}, {"f", "l"}, {"fl", "i"}, {"fli", "p"}, {"flip", " "}, {"flip ", DIGITS},
      {"flip 0", ";"}, {"t", "ue"}, {"tu", "r"}, {"tur", "n"}, {"turn", " "}, {"turn ", DIGITS}, {"turn 0", ";"},
      {"r", "a"}, {"ra", "i"}, {"rai", "s"}, {"rais", "e"}, {"raise", " "}, {"raise ", DIGITS}, {"raise 0", " "},
      {"raise 0 ", "+-"}, {"raise 0 +", DIGITS}, {"raise 0 -", DIGITS}, {"raise 0 -9", ";"}, {"te", "m"}, {"tem", "p"},
      {"temp", "o"}, {"tempo", " "}, {"tempo ", DIGITS}, {"tempo 2", ";"}, {"l", "i"}, {"li", "m"}, {"lim", "i"},
      {"limi", "t"}, {"limit", " "}, {"limit ", DIGITS}, {"limit 1", DIGITS + ";"}, {"limit 99", ";"}, {"w", "a"},
      {"wa", "v"}, {"wav", "e"}, {"wave", ";"}, {"b", "e"}, {"be", "a"}, {"bea", "t"}, {"beat", " ;"},
      {"beat ", DIGITS}, {"beat 1", DIGITS + ";"}, {"beat 40", ";"}, {"wave;", VERBS}, {"beat;", VERBS},
      {"beat 1;", VERBS}, {"drop 0;t", "ue"}, {"wave;wave;beat", " ;"}};

  private final Sentences s;

  ScriptBoundaries(Sentences sentences) {
    s = sentences;
  }

  void tell() {
    buffersHoldSixtyCharacters();
    scriptsHaveCommands();
    commandsHaveTheirForm();
    numbersHaveOneOrTwoDigits();
    partsAreOptional();
    commandsCallTheirMethods();
    allCommandsTakeEffectOrNone();
    errorPositionsAreTheFirstWrongIndex();
    type();
    runScript();
    errorPosition();
    failedCommand();
  }

  private void buffersHoldSixtyCharacters() {
    s.term("A script is typed into a buffer of at most 60 characters and then run.");
    ScoreOrchestra x = new ScoreOrchestra();
    s.due("sixty characters", 60, () -> Orchestras.type(x, "beat 40;".repeat(7) + "beat"));
    s.due("one more", IllegalStateException.class, () -> x.type(' '));
    s.due("the sixty are run", 8, x::runScript);
    s.due("each of them", 281, x::beatCount);
  }

  private void scriptsHaveCommands() {
    s.term("It has the form");
    s.due("a script", 1, () -> Orchestras.run(new ScoreOrchestra(), "wave"));
    s.term("script = command { \";\" command}");
    s.due("no command", IllegalArgumentException.class, () -> Orchestras.run(new ScoreOrchestra(), ""));
    s.due("one command", 1, () -> Orchestras.run(new ScoreOrchestra(), "beat"));
    s.due("two commands", 2, () -> Orchestras.run(new ScoreOrchestra(), "beat;wave"));
    s.due("twelve commands", 12, () -> Orchestras.run(new ScoreOrchestra(), "wave;".repeat(11) + "beat"));
    for (String script : new String[] {";", "wave;", ";wave", "wave;;wave", "wave wave", "wavewave", "wave,wave"}) {
      s.due(script, IllegalArgumentException.class, () -> Orchestras.run(new ScoreOrchestra(), script));
    }
  }

  private void commandsHaveTheirForm() {
    s.term("command = \"add \" ( \"s\" | \"w\" | \"d\" ) digit digit | \"drop \" digit | \"note \" digit \" \" digit "
        + "digit \"=\" digit | \"mask \" digit \" \" digit ( \"+\" | \"-\" ) | ( \"flip \" | \"turn \" ) digit | "
        + "\"raise \" digit \" \" ( \"+\" | \"-\" ) digit | \"tempo \" digit | \"limit \" number | \"wave\" | \"beat\" "
        + "[ \" \" number ]");
    for (String command : new String[] {"add s16", "add w61", "add d11", "drop 0", "note 0 00=9", "mask 0 5+",
        "mask 0 0-", "flip 0", "turn 0", "raise 0 +9", "raise 0 -9", "tempo 5", "limit 99", "wave", "beat",
        "beat 40"}) {
      s.due(command, 1, () -> Orchestras.run(Orchestras.with("s:0"), command));
    }
    for (String command : new String[] {"add", "add ", "add s", "add s1", "add x11", "add s111", "add  s11", "ADD s11",
        "drop", "drop x", "drop 10", "drop  1", "drop -1", "note 0 00", "note 0 00=", "note 0 00=10", "note 0 0 0=1",
        "note 00 00=1", "mask 0 5", "mask 0 +", "mask 0 5 +", "mask 0 15+", "flip", "flip 10", "turn", "turn a",
        "raise 0 9", "raise 0 +", "raise 0 +10", "raise 0+1", "tempo", "tempo 10", "limit", "limit 100", "wave ",
        "wave 1", "Wave", "beat ", "beat -1", "beat 100", "beat x", " beat", "bea"}) {
      s.due(command, IllegalArgumentException.class, () -> Orchestras.run(Orchestras.with("s:0"), command));
    }
  }

  private void numbersHaveOneOrTwoDigits() {
    s.term("number = digit [ digit ]");
    for (int limit : new int[] {1, 9, 10, 99}) {
      s.due("limit " + limit, limit, () -> limitAfter("limit " + limit));
    }
    s.due("a zero before", 7, () -> limitAfter("limit 07"));
    s.due("no digit", IllegalArgumentException.class, () -> limitAfter("limit "));
    s.due("three digits", IllegalArgumentException.class, () -> limitAfter("limit 010"));
    s.due("40 beats", 40, () -> beatsAfter("beat 40"));
    s.due("4 beats", 4, () -> beatsAfter("beat 04"));
  }

  private static int limitAfter(String script) {
    ScoreOrchestra x = new ScoreOrchestra();
    Orchestras.run(x, script);
    return x.limit();
  }

  private static int beatsAfter(String script) {
    ScoreOrchestra x = new ScoreOrchestra();
    Orchestras.run(x, script);
    return x.beatCount();
  }

  private void partsAreOptional() {
    s.term("where braces mean zero or more repetitions, brackets an optional part, parentheses a group, and a bar an "
        + "alternative.");
    s.due("zero repetitions", 2, () -> beatsAfter("wave"));
    s.due("one repetition", 4, () -> beatsAfter("wave;wave"));
    s.due("eleven repetitions", 24, () -> beatsAfter("wave;".repeat(11) + "wave"));
    s.due("without the optional part", 1, () -> beatsAfter("beat"));
    s.due("with the optional part", 2, () -> beatsAfter("beat 2"));
    s.due("neither alternative", IllegalArgumentException.class, () -> beatsAfter("spin 0"));
    s.due("parts of two alternatives", IllegalArgumentException.class, () -> beatsAfter("flin 0"));
  }

  private void commandsCallTheirMethods() {
    s.term("The commands call addSection, removeSection, setNote, setMasked (with true for \"+\"), transpose, reverse, "
        + "raise (with a negative number for \"-\"), setTempo, setLimit, conductWave and conductBeats with the "
        + "arguments in the same order, flip for transpose and turn for reverse; beat without a number conducts 1 "
        + "beat.");
    calls("add w36", x -> x.addSection('w', 3, 6));
    calls("drop 1", x -> x.removeSection(1));
    calls("note 1 02=9", x -> x.setNote(1, 0, 2, 9));
    calls("note 0 10=0", x -> x.setNote(0, 1, 0, 0));
    calls("mask 1 5+", x -> x.setMasked(1, 5, true));
    calls("mask 0 1-", x -> x.setMasked(0, 1, false));
    calls("flip 1", x -> x.transpose(1));
    calls("turn 1", x -> x.reverse(1));
    calls("raise 1 +4", x -> x.raise(1, 4));
    calls("raise 1 -2", x -> x.raise(1, -2));
    calls("raise 1 -0", x -> x.raise(1, 0));
    calls("raise 1 +0", x -> x.raise(1, 0));
    calls("tempo 5", x -> x.setTempo(5));
    calls("limit 9", x -> x.setLimit(9));
    calls("limit 99", x -> x.setLimit(99));
    calls("wave", ScoreOrchestra::conductWave);
    calls("beat", x -> x.conductBeats(1));
    calls("beat 40", x -> x.conductBeats(40));
  }

  private void calls(String command, Function<ScoreOrchestra, Object> change) {
    ScoreOrchestra byScript = two();
    ScoreOrchestra byCall = two();
    Orchestras.run(byScript, command);
    change.apply(byCall);
    s.due(command, Views.of(byCall), () -> Views.of(byScript));
  }

  private static ScoreOrchestra two() {
    ScoreOrchestra x = Orchestras.with("s:12/34", "w:345");
    x.setMasked(0, 1, true);
    x.setLimit(5);
    x.conductBeats(3);
    return x;
  }

  private void allCommandsTakeEffectOrNone() {
    s.term("Commands are executed in order, and either all of them take effect or none.");
    s.due("the section is there for the note", "d:7", () -> {
      ScoreOrchestra x = new ScoreOrchestra();
      Orchestras.run(x, "add d11;note 0 00=7");
      return Orchestras.score(x, 0);
    });
    s.due("the tempo is set after the wave", 2 + 5, () -> beatsAfter("wave;tempo 5;wave"));
    for (String change : new String[] {"add d66", "drop 0", "note 0 00=9", "mask 1 0+", "flip 1", "turn 1",
        "raise 0 +5", "tempo 5", "limit 99", "wave", "beat 40"}) {
      failsAt(1, change + ";tempo 0");
    }
    failsAt(0, "drop 9;wave");
    failsAt(4, "drop 0;wave;turn 0;drop 0;drop 0;wave");
  }

  private void errorPositionsAreTheFirstWrongIndex() {
    s.term("The error position of a script that does not have this form is the index of the first character that "
        + "cannot continue any script of this form, or the length of the script if every character can and the script "
        + "ends too early.");
    s.due("the empty script", 0, () -> errorOf(""));
    for (String[] follower : FOLLOWERS) {
      String begin = follower[0];
      if (!follower[1].contains(";")) {
        s.due("\"" + begin + "\" ends too early", begin.length(), () -> errorOf(begin));
      }
      for (char sign = 32; sign <= 126; sign++) {
        String script = begin + sign;
        boolean goesOn = follower[1].indexOf(sign) >= 0;
        s.due("\"" + script + "\" and no more of any script", goesOn ? script.length() : begin.length(),
            () -> errorOf(script + "~"));
      }
    }
    s.due("the first of two errors", 5, () -> errorOf("drop x;wage"));
    s.due("the last of sixty", 59, () -> errorOf("wave;".repeat(11) + "wave~"));
    s.due("sixty end too early", 60, () -> errorOf("wave;".repeat(12)));
    s.due("sixty, the first is wrong", 0, () -> errorOf(" ".repeat(60)));
  }

  private static int errorOf(String script) {
    ScoreOrchestra x = new ScoreOrchestra();
    Check.outcome(() -> Orchestras.run(x, script));
    return x.errorPosition();
  }

  private void type() {
    s.promise(50, "Appends a character to the script buffer.");
    ScoreOrchestra x = new ScoreOrchestra();
    for (char sign : "tempo 3".toCharArray()) {
      x.type(sign);
    }
    x.runScript();
    s.due("in their order", 3, x::tempo);

    s.promise(50, "Returns the length of the script buffer.");
    for (int i = 1; i <= 60; i++) {
      int length = i;
      s.due("after " + i, length, () -> x.type('a'));
    }

    s.promise(50, "Throws IllegalArgumentException if the character code is not between 32 and 126");
    ScoreOrchestra y = new ScoreOrchestra();
    for (int code : new int[] {0, 1, 9, 10, 13, 31, 127, 128, 160, 255, 256 + 'a', 32767, 32768, 65535}) {
      s.due("code " + code, IllegalArgumentException.class, () -> y.type((char) code));
    }
    for (int code = 32; code <= 126; code++) {
      char sign = (char) code;
      s.due("code " + code, 1, () -> new ScoreOrchestra().type(sign));
    }
    s.due("none of the wrong ones was typed", 1, () -> y.type(' '));

    s.promise(50, "Throws IllegalStateException if the script buffer has 60 characters");
    s.due("the sixty-first", IllegalStateException.class, () -> x.type('a'));
    s.due("once more", IllegalStateException.class, () -> x.type('~'));
    Check.outcome(x::runScript);
    s.due("after it was run", 1, () -> x.type('a'));
    s.due("with 59 characters", 60, () -> Orchestras.type(new ScoreOrchestra(), "a".repeat(60)));
  }

  private void runScript() {
    s.promise(51, "Runs the script in the script buffer.");
    s.due("forty beats", 40, () -> beatsAfter("beat 40"));

    s.promise(51, "The buffer is empty afterwards, also if an exception is thrown.");
    for (String script : new String[] {"wave", "", "wage", "wave;", "drop 0", "a".repeat(60)}) {
      ScoreOrchestra x = new ScoreOrchestra();
      Check.outcome(() -> Orchestras.run(x, script));
      s.due("after \"" + script + "\"", 1, () -> x.type('b'));
      s.due("after \"" + script + "\", the next script", 1, () -> Orchestras.run(x, "eat"));
    }

    s.promise(51, "Returns the number of commands.");
    for (int commands = 1; commands <= 12; commands++) {
      String script = "beat;".repeat(commands - 1) + "wave";
      s.due("of " + script, commands, () -> Orchestras.run(new ScoreOrchestra(), script));
    }

    s.promise(51, "Throws IllegalArgumentException if the script does not have the required form; errorPosition then "
        + "returns its error position");
    ScoreOrchestra wrong = two();
    String before = Views.of(wrong);
    s.due("an empty script", IllegalArgumentException.class, wrong::runScript);
    s.due("an empty script's", 0, wrong::errorPosition);
    s.due("wrong at its end", IllegalArgumentException.class, () -> Orchestras.run(wrong, "drop 0;tempo 5;wave "));
    s.due("at its end", 19, wrong::errorPosition);
    s.due("no command took effect", before, () -> Views.of(wrong));
    s.due("no command failed", NoSuchElementException.class, wrong::failedCommand);

    s.promise(51, "Throws IllegalStateException if the method for a command throws an exception; no command takes "
        + "effect, and failedCommand then returns the index of that command");
    for (String command : new String[] {"add s01", "add s10", "add s17", "add s71", "add s99", "drop 2", "note 2 00=1",
        "note 0 20=1", "note 0 02=1", "mask 2 0+", "mask 0 6+", "mask 0 6-", "flip 2", "turn 9", "raise 2 +1",
        "raise 0 +6", "raise 0 -1", "tempo 0", "tempo 6", "limit 0", "limit 00", "beat 0", "beat 00", "beat 41",
        "beat 99"}) {
      failsAt(0, command);
      failsAt(1, "wave;" + command);
      failsAt(2, "flip 1;limit 44;" + command + ";drop 9");
    }
    failsAt(3, "add s11;add s11;add s11;add s11");
    failsAt(10, "wave;".repeat(10) + "flip 9");
  }

  private void failsAt(int command, String script) {
    ScoreOrchestra x = two();
    String before = Views.of(x);
    s.due(script, IllegalStateException.class, () -> Orchestras.run(x, script));
    s.due(script + ", the index", command, x::failedCommand);
    s.due(script + ", nothing took effect", before, () -> Views.of(x));
    s.due(script + ", it has the form", NoSuchElementException.class, x::errorPosition);
  }

  private void errorPosition() {
    s.promise(52, "Returns the error position of the latest script that did not have the required form.");
    ScoreOrchestra x = new ScoreOrchestra();
    Check.outcome(() -> Orchestras.run(x, "wave;x"));
    s.due("the only one", 5, x::errorPosition);
    Check.outcome(() -> Orchestras.run(x, "drop 0;drop 0"));
    s.due("after one with a failed command", 5, x::errorPosition);
    Orchestras.run(x, "wave");
    s.due("after one that was run", 5, x::errorPosition);
    Check.outcome(() -> Orchestras.run(x, "x"));
    s.due("of the later one", 0, x::errorPosition);

    s.promise(52, "Throws NoSuchElementException if there was no such script");
    s.due("no script", NoSuchElementException.class, () -> new ScoreOrchestra().errorPosition());
    ScoreOrchestra y = new ScoreOrchestra();
    Orchestras.run(y, "wave");
    s.due("one that was run", NoSuchElementException.class, y::errorPosition);
    Check.outcome(() -> Orchestras.run(y, "drop 0"));
    s.due("one with a failed command", NoSuchElementException.class, y::errorPosition);
    y.type('x');
    s.due("one that is only typed", NoSuchElementException.class, y::errorPosition);
  }

  private void failedCommand() {
    s.promise(53, "Returns the index of the command that failed in the latest script with a failed command.");
    ScoreOrchestra x = new ScoreOrchestra();
    Check.outcome(() -> Orchestras.run(x, "wave;wave;drop 0"));
    s.due("the only one", 2, x::failedCommand);
    Check.outcome(() -> Orchestras.run(x, "drop 0;x"));
    s.due("after one without the form", 2, x::failedCommand);
    Orchestras.run(x, "wave");
    s.due("after one that was run", 2, x::failedCommand);
    Check.outcome(() -> Orchestras.run(x, "wave;drop 0;drop 1"));
    s.due("the first that fails of the later one", 1, x::failedCommand);

    s.promise(53, "Returns the index of the command, counted from 0.");
    Check.outcome(() -> Orchestras.run(x, "drop 0"));
    s.due("the first", 0, x::failedCommand);
    Check.outcome(() -> Orchestras.run(x, "wave;".repeat(10) + "drop 0"));
    s.due("the eleventh", 10, x::failedCommand);

    s.promise(53, "Throws NoSuchElementException if there was no such script");
    s.due("no script", NoSuchElementException.class, () -> new ScoreOrchestra().failedCommand());
    ScoreOrchestra y = new ScoreOrchestra();
    Orchestras.run(y, "wave");
    s.due("one that was run", NoSuchElementException.class, y::failedCommand);
    Check.outcome(() -> Orchestras.run(y, "drop 0;"));
    s.due("one without the form", NoSuchElementException.class, y::failedCommand);
  }
}
