import java.util.NoSuchElementException;

// Promises 1 to 12: a new object, and the calls that change it.
final class ChangeBoundaries {
  private final Sentences s;

  ChangeBoundaries(Sentences sentences) {
    s = sentences;
  }

  void tell() {
    aNewObject();
    addSection();
    removeSection();
    setNote();
    setMasked();
    transpose();
    reverse();
    raise();
    setTempo();
    setLimit();
    conductWave();
    conductBeats();
  }

  private void aNewObject() {
    s.promise(1, "Creates an orchestra without sections, before beat 0.");
    ScoreOrchestra x = new ScoreOrchestra();
    s.due("no sections", 0, x::sectionCount);
    s.due("before beat 0", 0, x::beatCount);
    s.due("no section 0", IndexOutOfBoundsException.class, () -> x.kind(0));
    s.due("tempo", 2, x::tempo);
    s.due("limit", 30, x::limit);
    s.due("no breaks", 0, x::breakCount);
    s.due("no volume", 0L, x::totalVolume);
    s.due("no sounds", 0L, x::totalVolumeBySounds);
    s.due("empty log", NoSuchElementException.class, () -> x.loggedTotal(0));
    s.due("empty output", IndexOutOfBoundsException.class, () -> x.outputAt(0));
    s.due("no change", IllegalStateException.class, x::undo);
    s.due("no snapshot", IllegalStateException.class, x::restore);
    s.due("no wrong script", NoSuchElementException.class, x::errorPosition);
    s.due("no failed command", NoSuchElementException.class, x::failedCommand);
    s.due("empty buffer", 1, () -> x.type('w'));
    ScoreOrchestra other = new ScoreOrchestra();
    x.addSection('s', 1, 1);
    x.conductWave();
    s.due("another object has its own sections", 0, other::sectionCount);
    s.due("another object has its own beats", 0, other::beatCount);
    s.due("another object has its own buffer", 1, () -> other.type('w'));
  }

  private void addSection() {
    s.promise(2, "Adds a section with a score of notes 0.");
    ScoreOrchestra x = Orchestras.with("s:99/99", "w:99/99");
    x.removeSection(1);
    x.addSection('d', 6, 6);
    s.due("the largest", "d:000000/000000/000000/000000/000000/000000", () -> Orchestras.score(x, 1));
    x.addSection('w', 1, 1);
    s.due("the smallest", "w:0", () -> Orchestras.score(x, 2));

    for (int beats = 1; beats <= 3; beats++) {
      ScoreOrchestra tired = Orchestras.with("s:1", "s:1", "s:1", "s:1", "s:9");
      tired.setLimit(12);
      tired.setMasked(4, 5, true);
      tired.conductBeats(beats);
      tired.removeSection(4);
      tired.addSection('d', 6, 6);
      String when = "in the place of one that has played " + beats + " beats";
      s.due(when, "d:000000/000000/000000/000000/000000/000000", () -> Orchestras.score(tired, 4));
      s.due(when + ", its mask, fatigue and rest", "......f0", () -> Orchestras.mask(tired, 4));
      s.due(when + ", its volume", 0, () -> tired.playedVolume(4));
    }

    s.promise(2, "Returns the index of the section.");
    ScoreOrchestra five = new ScoreOrchestra();
    for (int i = 0; i < 5; i++) {
      int index = i;
      s.due("with " + i + " sections", index, () -> five.addSection('s', 1, 1));
    }
    five.removeSection(0);
    s.due("with 4 again", 4, () -> five.addSection('s', 1, 1));

    s.promise(2, "Throws IllegalArgumentException if there is no such kind, or rows or columns is not between 1 and 6");
    for (int code : new int[] {0, 'S', 'W', 'D', 'c', 'e', 'r', 't', 'v', 'x', ' ', 256 + 's', 65535}) {
      s.due("kind " + code, IllegalArgumentException.class, () -> new ScoreOrchestra().addSection((char) code, 1, 1));
    }
    for (char kind : new char[] {'s', 'w', 'd'}) {
      s.due("kind " + kind, 0, () -> new ScoreOrchestra().addSection(kind, 1, 1));
    }
    for (int number : new int[] {0, -1, 7, Integer.MIN_VALUE, Integer.MAX_VALUE, 256 + 1}) {
      s.due("rows " + number, IllegalArgumentException.class, () -> new ScoreOrchestra().addSection('s', number, 1));
      s.due("columns " + number, IllegalArgumentException.class,
          () -> new ScoreOrchestra().addSection('s', 1, number));
    }
    s.due("6 and 6", 0, () -> new ScoreOrchestra().addSection('s', 6, 6));
    s.due("1 and 6", 0, () -> new ScoreOrchestra().addSection('s', 1, 6));
    s.due("6 and 1", 0, () -> new ScoreOrchestra().addSection('s', 6, 1));

    s.promise(2, "Throws IllegalStateException if there are 5 sections");
    s.due("a sixth one", IllegalStateException.class, () -> five.addSection('s', 1, 1));
    s.due("a sixth one of another kind and size", IllegalStateException.class, () -> five.addSection('d', 6, 6));
    s.due("still five", 5, five::sectionCount);
  }

  private void removeSection() {
    s.promise(3, "Removes a section.");
    ScoreOrchestra x = Orchestras.with("s:1", "w:2", "d:3", "s:4", "w:5");
    x.removeSection(4);
    s.due("the last", "s:1 w:2 d:3 s:4", () -> scores(x));
    x.removeSection(0);
    s.due("the first", "w:2 d:3 s:4", () -> scores(x));
    x.removeSection(1);
    s.due("one between", "w:2 s:4", () -> scores(x));
    x.setNote(1, 0, 0, 7);
    s.due("they are still apart", "w:2 s:7", () -> scores(x));

    s.promise(3, "Returns the number of sections after the call.");
    ScoreOrchestra five = Orchestras.with("s:1", "w:2", "d:3", "s:4", "w:5");
    for (int i = 4; i >= 0; i--) {
      int left = i;
      s.due("of " + (left + 1), left, () -> five.removeSection(0));
    }

    s.noSuchSection(3, "removeSection", ScoreOrchestra::removeSection);
  }

  private static String scores(ScoreOrchestra x) {
    StringBuilder scores = new StringBuilder();
    for (int i = 0; i < x.sectionCount(); i++) {
      scores.append(i > 0 ? " " : "").append(Orchestras.score(x, i));
    }
    return scores.toString();
  }

  private void setNote() {
    s.promise(4, "Sets a note of a score.");
    ScoreOrchestra x = Orchestras.with("s:000/000");
    x.setNote(0, 0, 0, 1);
    x.setNote(0, 0, 2, 2);
    x.setNote(0, 1, 0, 3);
    x.setNote(0, 1, 2, 9);
    s.due("the corners", "s:102/309", () -> Orchestras.score(x, 0));

    s.promise(4, "Returns the previous note.");
    s.due("9", 9, () -> x.setNote(0, 1, 2, 0));
    s.due("0", 0, () -> x.setNote(0, 1, 2, 9));
    s.due("the same", 9, () -> x.setNote(0, 1, 2, 9));

    s.promise(4, "Throws IndexOutOfBoundsException if there is no such section, or its score has no such row or "
        + "column");
    s.noSuchPlace("setNote", (y, at) -> y.setNote(at[0], at[1], at[2], 5));

    s.promise(4, "Throws IllegalArgumentException if note is not between 0 and 9");
    for (int note : new int[] {-1, 10, Integer.MIN_VALUE, Integer.MAX_VALUE, 256 + 3}) {
      s.due("note " + note, IllegalArgumentException.class, () -> x.setNote(0, 0, 0, note));
    }
    s.due("nothing was set", "s:102/309", () -> Orchestras.score(x, 0));
    s.due("note 9", 1, () -> x.setNote(0, 0, 0, 9));
    s.due("note 0", 9, () -> x.setNote(0, 0, 0, 0));
  }

  private void setMasked() {
    s.promise(5, "Puts a column number into the mask of a section, or takes it out.");
    ScoreOrchestra x = Orchestras.with("s:1", "w:123456");
    x.setMasked(1, 0, true);
    x.setMasked(1, 5, true);
    x.setMasked(0, 5, true);
    s.due("the first and the last", "x....xf0", () -> Orchestras.mask(x, 1));
    s.due("a number without a column", ".f0", () -> Orchestras.mask(x, 0));
    x.setMasked(1, 0, false);
    s.due("the first taken out", ".....xf0", () -> Orchestras.mask(x, 1));

    s.promise(5, "Returns true if it was in the mask before.");
    s.due("was in, put in", true, () -> x.setMasked(0, 5, true));
    s.due("was in, taken out", true, () -> x.setMasked(0, 5, false));
    s.due("was out, taken out", false, () -> x.setMasked(0, 5, false));
    s.due("was out, put in", false, () -> x.setMasked(0, 5, true));

    s.promise(5, "- isMasked: true to put it into the mask");
    s.due("true", true, () -> x.isMasked(0, 5));
    x.setMasked(0, 5, false);
    s.due("false", false, () -> x.isMasked(0, 5));

    s.noSuchSection(5, "setMasked", (y, section) -> y.setMasked(section, 0, true));

    s.promise(5, "Throws IllegalArgumentException if column is not between 0 and 5");
    for (int column : new int[] {-1, 6, 31, 32, 37, -27, -32, Integer.MIN_VALUE, Integer.MAX_VALUE}) {
      s.due("column " + column, IllegalArgumentException.class, () -> x.setMasked(0, column, true));
      s.due("column " + column + " out", IllegalArgumentException.class, () -> x.setMasked(1, column, false));
    }
    s.due("nothing was put in", ".f0", () -> Orchestras.mask(x, 0));
    s.due("nothing was taken out", ".....xf0", () -> Orchestras.mask(x, 1));
    s.due("column 0", false, () -> x.setMasked(0, 0, true));
    s.due("column 5", false, () -> x.setMasked(0, 5, true));
  }

  private void transpose() {
    s.promise(6, "Transposes the score of a section.");
    ScoreOrchestra x = Orchestras.with("s:123/456", "s:123/456");
    x.transpose(0);
    s.due("the one", "s:14/25/36", () -> Orchestras.score(x, 0));
    s.due("the other", "s:123/456", () -> Orchestras.score(x, 1));

    s.promise(6, "Returns the number of columns after the call.");
    s.due("of three", 2, () -> x.transpose(1));
    s.due("of two", 3, () -> x.transpose(1));
    s.due("of one", 1, () -> Orchestras.with("s:1").transpose(0));
    s.due("of six rows", 6, () -> Orchestras.with("s:1/2/3/4/5/6").transpose(0));
    s.due("of six columns", 1, () -> Orchestras.with("s:123456").transpose(0));

    s.noSuchSection(6, "transpose", ScoreOrchestra::transpose);
  }

  private void reverse() {
    s.promise(7, "Reverses the score of a section.");
    ScoreOrchestra x = Orchestras.with("s:123/456", "s:123/456");
    x.reverse(0);
    s.due("the one", "s:321/654", () -> Orchestras.score(x, 0));
    s.due("the other", "s:123/456", () -> Orchestras.score(x, 1));

    s.promise(7, "Returns the number of notes that are different after the call, row by row and column by column.");
    s.due("one column", 0, () -> Orchestras.with("s:1/2/3").reverse(0));
    s.due("the middle stays", 4, () -> x.reverse(1));
    s.due("a row that reads the same", 2, () -> Orchestras.with("d:121/112").reverse(0));
    s.due("notes 0", 2, () -> Orchestras.with("d:100").reverse(0));
    s.due("all of them", 36,
        () -> Orchestras.with("w:123456/123456/123456/123456/123456/123456").reverse(0));
    s.due("none of them", 0, () -> Orchestras.with("w:123321/000000/999999").reverse(0));

    s.noSuchSection(7, "reverse", ScoreOrchestra::reverse);
  }

  private void raise() {
    s.promise(8, "Raises the score of a section.");
    ScoreOrchestra x = Orchestras.with("s:109", "s:109");
    x.setNote(0, 0, 2, 8);
    x.raise(0, 1);
    s.due("the one", "s:209", () -> Orchestras.score(x, 0));
    s.due("the other", "s:109", () -> Orchestras.score(x, 1));

    s.promise(8, "- by: the number that is added, which can be negative");
    x.raise(0, -1);
    s.due("by -1", "s:108", () -> Orchestras.score(x, 0));

    s.promise(8, "Returns the number of notes that are not 0.");
    s.due("none", 0, () -> Orchestras.with("s:00").raise(0, 5));
    s.due("two of three", 2, () -> x.raise(0, 0));
    s.due("all", 36, () -> Orchestras.with("s:111111/111111/111111/111111/111111/111111").raise(0, 8));

    s.noSuchSection(8, "raise", (y, section) -> y.raise(section, 1));

    s.promise(8, "Throws IllegalArgumentException if by is not between -9 and 9");
    ScoreOrchestra silent = Orchestras.with("s:0");
    for (int by : new int[] {-10, 10, Integer.MIN_VALUE, Integer.MAX_VALUE, 256}) {
      s.due("by " + by, IllegalArgumentException.class, () -> x.raise(0, by));
      s.due("notes 0 by " + by, IllegalArgumentException.class, () -> silent.raise(0, by));
    }
    s.due("notes 0 by 9", 0, () -> silent.raise(0, 9));
    s.due("notes 0 by -9", 0, () -> silent.raise(0, -9));

    s.promise(8, "Throws UnsupportedOperationException if a note that is not 0 would not be between 1 and 9");
    s.due("9 by 1", UnsupportedOperationException.class, () -> Orchestras.with("s:9").raise(0, 1));
    s.due("1 by -1", UnsupportedOperationException.class, () -> Orchestras.with("s:1").raise(0, -1));
    s.due("1 by 9", UnsupportedOperationException.class, () -> Orchestras.with("s:1").raise(0, 9));
    s.due("9 by -9", UnsupportedOperationException.class, () -> Orchestras.with("s:9").raise(0, -9));
    s.due("9 by 0", 1, () -> Orchestras.with("s:9").raise(0, 0));
    s.due("1 by 8", 1, () -> Orchestras.with("s:1").raise(0, 8));
    s.due("9 by -8", 1, () -> Orchestras.with("s:9").raise(0, -8));
    ScoreOrchestra last = Orchestras.with("s:555/509");
    s.due("only the last one is too high", UnsupportedOperationException.class, () -> last.raise(0, 1));
    s.due("none was raised", "s:555/509", () -> Orchestras.score(last, 0));
    ScoreOrchestra first = Orchestras.with("s:155/500");
    s.due("only the first one is too low", UnsupportedOperationException.class, () -> first.raise(0, -1));
    s.due("none was lowered", "s:155/500", () -> Orchestras.score(first, 0));
  }

  private void setTempo() {
    s.promise(9, "Sets the tempo.");
    ScoreOrchestra x = new ScoreOrchestra();
    x.setTempo(5);
    s.due("to 5", 5, x::tempo);
    x.setTempo(1);
    s.due("to 1", 1, x::tempo);

    s.promise(9, "Returns the previous tempo.");
    s.due("1", 1, () -> x.setTempo(4));
    s.due("4", 4, () -> x.setTempo(4));
    s.due("of a new object", 2, () -> new ScoreOrchestra().setTempo(5));

    s.promise(9, "Throws IllegalArgumentException if tempo is not between 1 and 5");
    for (int tempo : new int[] {0, 6, -1, -2, Integer.MIN_VALUE, Integer.MAX_VALUE, 256 + 2}) {
      s.due("tempo " + tempo, IllegalArgumentException.class, () -> x.setTempo(tempo));
    }
    s.due("still 4", 4, x::tempo);
    s.due("tempo 1", 4, () -> x.setTempo(1));
    s.due("tempo 5", 1, () -> x.setTempo(5));
  }

  private void setLimit() {
    s.promise(10, "Sets the limit.");
    ScoreOrchestra x = new ScoreOrchestra();
    x.setLimit(99);
    s.due("to 99", 99, x::limit);
    x.setLimit(1);
    s.due("to 1", 1, x::limit);

    s.promise(10, "Returns the previous limit.");
    s.due("1", 1, () -> x.setLimit(50));
    s.due("50", 50, () -> x.setLimit(50));
    s.due("of a new object", 30, () -> new ScoreOrchestra().setLimit(5));

    s.promise(10, "Throws IllegalArgumentException if limit is not between 1 and 99");
    for (int limit : new int[] {0, 100, -1, -30, Integer.MIN_VALUE, Integer.MAX_VALUE, 256 + 2}) {
      s.due("limit " + limit, IllegalArgumentException.class, () -> x.setLimit(limit));
    }
    s.due("still 50", 50, x::limit);
    s.due("limit 1", 50, () -> x.setLimit(1));
    s.due("limit 99", 1, () -> x.setLimit(99));
  }

  private void conductWave() {
    s.promise(11, "Conducts a wave.");
    ScoreOrchestra x = Orchestras.with("s:123456");
    x.conductWave();
    s.due("two beats", 2, x::beatCount);
    x.setTempo(5);
    x.conductWave();
    s.due("five beats more", 7, x::beatCount);
    x.setTempo(1);
    x.conductWave();
    s.due("one beat more", 8, x::beatCount);

    s.promise(11, "Returns the sum of the totals of its beats.");
    s.due("beat 8", 3, x::conductWave);
    x.setTempo(5);
    s.due("beats 9 to 13", 4 + 5 + 6 + 1 + 2, x::conductWave);
    s.due("without sections", 0, () -> new ScoreOrchestra().conductWave());
  }

  private void conductBeats() {
    s.promise(12, "Conducts beats, whatever the tempo is.");
    ScoreOrchestra x = Orchestras.with("s:12");
    x.setTempo(5);
    x.conductBeats(1);
    s.due("one of tempo 5", 1, x::beatCount);
    x.setTempo(1);
    x.conductBeats(40);
    s.due("forty of tempo 1", 41, x::beatCount);
    s.due("the tempo stays", 1, x::tempo);

    s.promise(12, "Returns the sum of their totals.");
    s.due("one", 2, () -> x.conductBeats(1));
    s.due("forty", 60, () -> x.conductBeats(40));
    s.due("without sections", 0, () -> new ScoreOrchestra().conductBeats(40));
    s.due("forty of the loudest, which rests in two beats of five", 24 * 72,
        () -> Orchestras.with("w:6/6/6/6/6/6").conductBeats(40));

    s.promise(12, "Throws IllegalArgumentException if beats is not between 1 and 40");
    for (int beats : new int[] {0, 41, -1, 60, Integer.MIN_VALUE, Integer.MAX_VALUE, 256 + 2}) {
      s.due("beats " + beats, IllegalArgumentException.class, () -> x.conductBeats(beats));
    }
    s.due("none was conducted", 82, x::beatCount);
    s.stands("beats 1", () -> x.conductBeats(1));
    s.stands("beats 40", () -> x.conductBeats(40));
  }
}
