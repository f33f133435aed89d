import java.util.NoSuchElementException;

// The paragraphs of "Terms" from Sections to Predictions.
final class TermBoundaries {
  private static final char[] KINDS = {'s', 'w', 'd'};
  private static final String LARGEST = "s:999999/999999/999999/999999/999999/999999";

  private final Sentences s;

  TermBoundaries(Sentences sentences) {
    s = sentences;
  }

  void tell() {
    sectionsAreAtMostFive();
    sectionsBeginRested();
    scoresHaveOneToSixRowsAndColumns();
    notesAreFromZeroToNine();
    transposingExchangesRowsAndColumns();
    reversingPutsTheLastNoteFirst();
    raisingLeavesTheNoteZero();
    theNoteZeroIsSilent();
    volumesDependOnTheKind();
    columnsAddTheirNotes();
    masksBeginEmpty();
    masksStayWhenTheScoreTurns();
    beatsAreCountedFromZero();
    columnsWrapAround();
    sectionsRestThenAreMaskedThenPlay();
    silentSectionsHaveNoVolume();
    totalsAddAllSections();
    wavesBreakAboveTheLimit();
    theTempoIsFromOneToFive();
    wavesLastAsLongAsTheTempo();
    theLimitIsFromOneToNinetyNine();
    soundsAreRecorded();
    tenTotalsAreRemembered();
    predictionsPlayBeatsOnly();
    predictionsChangeNothing();
  }

  private void sectionsAreAtMostFive() {
    s.term("There are at most 5 sections, with the indices 0 to n - 1 in the order in which they were added; "
        + "when a section is removed, the indices of the sections that were added later decrease by 1.");
    ScoreOrchestra x = new ScoreOrchestra();
    for (int i = 0; i < 5; i++) {
      int index = i;
      s.due("the section after " + i, index, () -> x.addSection('s', 1, index + 1));
    }
    s.due("a sixth one", IllegalStateException.class, () -> x.addSection('s', 1, 6));
    s.due("five of them", 5, x::sectionCount);
    columnsAre(x, "in their order", 1, 2, 3, 4, 5);
    x.removeSection(4);
    columnsAre(x, "without the last", 1, 2, 3, 4);
    x.removeSection(1);
    columnsAre(x, "without one between", 1, 3, 4);
    x.removeSection(0);
    columnsAre(x, "without the first", 3, 4);
    s.due("one more", 2, () -> x.addSection('s', 1, 6));
    columnsAre(x, "behind the others", 3, 4, 6);
    for (int i = 0; i < 3; i++) {
      x.removeSection(0);
    }
    columnsAre(x, "none");
    s.due("the first again", 0, () -> x.addSection('s', 1, 2));
  }

  private void columnsAre(ScoreOrchestra x, String when, int... columns) {
    for (int i = 0; i < columns.length; i++) {
      int section = i;
      s.due(when + ", columns of " + i, columns[section], () -> x.columns(section));
    }
    s.due(when + ", no other", IndexOutOfBoundsException.class, () -> x.columns(columns.length));
  }

  private void sectionsBeginRested() {
    s.term("A section has a kind, which is s for strings, w for winds, or d for drums, a score, a mask, a fatigue "
        + "from 0 to 2, initially 0, and a number of beats for which it rests, initially 0.");
    ScoreOrchestra x = new ScoreOrchestra();
    x.conductBeats(3);
    for (char kind : KINDS) {
      int section = x.addSection(kind, 1, 1);
      s.due("kind", kind, () -> x.kind(section));
      s.due("fatigue initially", 0, () -> x.fatigue(section));
      s.due("rest initially", 0, () -> x.restingBeats(section));
      s.due("mask initially", ".f0", () -> Orchestras.mask(x, section));
    }
    ScoreOrchestra tired = Orchestras.with("s:9");
    tired.setLimit(1);
    for (int fatigue : new int[] {1, 2, 0, 0, 0, 1, 2, 0}) {
      tired.conductBeats(1);
      s.due("after beat " + tired.beatCount(), fatigue, () -> tired.fatigue(0));
    }
  }

  private void scoresHaveOneToSixRowsAndColumns() {
    s.term("A score has from 1 to 6 rows and from 1 to 6 columns.");
    for (int i = 0; i <= 7; i++) {
      for (int j = 0; j <= 7; j++) {
        int rows = i;
        int columns = j;
        ScoreOrchestra x = new ScoreOrchestra();
        boolean fits = 1 <= rows && rows <= 6 && 1 <= columns && columns <= 6;
        s.due(rows + " rows and " + columns + " columns", fits ? 0 : (Object) IllegalArgumentException.class,
            () -> x.addSection('w', rows, columns));
        s.due("rows of " + rows, fits ? rows : (Object) IndexOutOfBoundsException.class, () -> x.rows(0));
        s.due("columns of " + columns, fits ? columns : (Object) IndexOutOfBoundsException.class, () -> x.columns(0));
      }
    }
  }

  private void notesAreFromZeroToNine() {
    s.term("In each row and column there is a note from 0 to 9, initially 0.");
    ScoreOrchestra x = new ScoreOrchestra();
    x.addSection('d', 6, 6);
    for (int i = 0; i < 36; i++) {
      int row = i / 6;
      int column = i % 6;
      s.due("initially, " + row + ", " + column, 0, () -> x.note(0, row, column));
      int note = 1 + (row + column) % 9;
      s.due("before the first note, " + row + ", " + column, 0, () -> x.setNote(0, row, column, note));
    }
    s.due("each has its own", "d:123456/234567/345678/456789/567891/678912", () -> Orchestras.score(x, 0));
    for (int i = 0; i <= 9; i++) {
      int note = i;
      x.setNote(0, 5, 0, note);
      s.due("the note " + note, note, () -> x.note(0, 5, 0));
    }
    s.due("the note 10", IllegalArgumentException.class, () -> x.setNote(0, 5, 0, 10));
    s.due("the note -1", IllegalArgumentException.class, () -> x.setNote(0, 5, 0, -1));
    s.due("still 9", 9, () -> x.note(0, 5, 0));
  }

  private void transposingExchangesRowsAndColumns() {
    s.term("To transpose a score means to exchange rows and columns: the note in row r and column c goes to row c "
        + "and column r.");
    becomes("s:7", "s:7", "transpose");
    becomes("w:123456", "w:1/2/3/4/5/6", "transpose");
    becomes("w:1/2/3/4/5/6", "w:123456", "transpose");
    becomes("d:123/456", "d:14/25/36", "transpose");
    becomes("d:12/34", "d:13/24", "transpose");
    becomes("s:123456/789012/345678/901234/567890/123450", "s:173951/284062/395173/406284/517395/628400",
        "transpose");
  }

  private void reversingPutsTheLastNoteFirst() {
    s.term("To reverse a score means that in each row the notes change their order, the last one first.");
    becomes("s:7", "s:7", "reverse");
    becomes("w:1/2/3/4/5/6", "w:1/2/3/4/5/6", "reverse");
    becomes("w:12", "w:21", "reverse");
    becomes("w:123", "w:321", "reverse");
    becomes("d:12345/00120", "d:54321/02100", "reverse");
    becomes("s:123456/789012/345678/901234/567890/123450", "s:654321/210987/876543/432109/098765/054321", "reverse");
  }

  private void becomes(String score, String due, String method) {
    ScoreOrchestra x = Orchestras.with("s:8", score, "s:9");
    if (method.equals("transpose")) {
      x.transpose(1);
    } else {
      x.reverse(1);
    }
    s.due(method + " " + score, due, () -> Orchestras.score(x, 1));
    s.due(method + " " + score + ", the one before", "s:8", () -> Orchestras.score(x, 0));
    s.due(method + " " + score + ", the one behind", "s:9", () -> Orchestras.score(x, 2));
  }

  private void raisingLeavesTheNoteZero() {
    s.term("To raise a score by a number means to add this number to each note that is not 0.");
    ScoreOrchestra x = Orchestras.with("s:01/20", "s:0/0", LARGEST);
    x.raise(0, 7);
    s.due("by 7", "s:08/90", () -> Orchestras.score(x, 0));
    x.raise(0, -7);
    s.due("by -7", "s:01/20", () -> Orchestras.score(x, 0));
    x.raise(0, 0);
    s.due("by 0", "s:01/20", () -> Orchestras.score(x, 0));
    x.raise(1, 9);
    s.due("notes 0 by 9", "s:0/0", () -> Orchestras.score(x, 1));
    x.raise(1, -9);
    s.due("notes 0 by -9", "s:0/0", () -> Orchestras.score(x, 1));
    x.raise(2, -8);
    s.due("all notes by -8", LARGEST.replace('9', '1'), () -> Orchestras.score(x, 2));
  }

  private void theNoteZeroIsSilent() {
    s.term("The volume of the note 0 is 0.");
    ScoreOrchestra x = new ScoreOrchestra();
    for (char kind : KINDS) {
      s.due("for " + kind, 0, () -> x.noteVolume(kind, 0));
    }
    s.due("columns of notes 0", 0, () -> Orchestras.with("s:00", "w:0/0", "d:0").nextTotal());
  }

  private void volumesDependOnTheKind() {
    s.term("The volume of another note is the note itself for strings; it is twice the note, but at most 12, for "
        + "winds; and it is 5 for an odd note and 1 for an even note for drums.");
    int[][] volumes = {{1, 2, 3, 4, 5, 6, 7, 8, 9}, {2, 4, 6, 8, 10, 12, 12, 12, 12}, {5, 1, 5, 1, 5, 1, 5, 1, 5}};
    for (int i = 0; i < KINDS.length; i++) {
      char kind = KINDS[i];
      for (int j = 1; j <= 9; j++) {
        int note = j;
        int due = volumes[i][j - 1];
        String name = kind + ":" + note;
        s.due("noteVolume of " + name, due, () -> new ScoreOrchestra().noteVolume(kind, note));
        s.due("columnVolume of " + name, due, () -> Orchestras.with(name).columnVolume(0, 0));
        s.due("the beat of " + name, due, () -> Orchestras.with(name).conductBeats(1));
      }
    }
  }

  private void columnsAddTheirNotes() {
    s.term("The volume of a column of a section is the sum of the volumes of the notes in this column.");
    ScoreOrchestra x = Orchestras.with("w:79/31/10", "d:9", LARGEST, LARGEST.replace('s', 'w'), "d:123456");
    s.due("three rows", 12 + 6 + 2, () -> x.columnVolume(0, 0));
    s.due("three rows, the last column", 12 + 2, () -> x.columnVolume(0, 1));
    s.due("one row and column", 5, () -> x.columnVolume(1, 0));
    s.due("the largest of strings", 54, () -> x.columnVolume(2, 0));
    s.due("the largest of strings, the last column", 54, () -> x.columnVolume(2, 5));
    s.due("the largest of winds", 72, () -> x.columnVolume(3, 5));
    s.due("one row, the last column", 1, () -> x.columnVolume(4, 5));
  }

  private void masksBeginEmpty() {
    s.term("The mask of a section is a set of column numbers from 0 to 5, initially empty.");
    ScoreOrchestra x = Orchestras.with("s:12", "w:123456");
    for (int i = 0; i <= 5; i++) {
      int column = i;
      s.due("initially, column " + column, false, () -> x.isMasked(0, column));
      s.due("put in, column " + column, false, () -> x.setMasked(0, column, true));
      s.due("is in, column " + column, true, () -> x.isMasked(0, column));
      s.due("put in again, column " + column, true, () -> x.setMasked(0, column, true));
    }
    for (int i = 0; i <= 5; i++) {
      int column = i;
      s.due("with all others, column " + column, true, () -> x.isMasked(0, column));
      s.due("of another section, column " + column, false, () -> x.isMasked(1, column));
    }
    x.setMasked(0, 2, false);
    for (int i = 0; i <= 5; i++) {
      int column = i;
      s.due("without column 2, column " + column, column != 2, () -> x.isMasked(0, column));
    }
    s.due("put column -1 in", IllegalArgumentException.class, () -> x.setMasked(0, -1, true));
    s.due("put column 6 in", IllegalArgumentException.class, () -> x.setMasked(0, 6, true));
  }

  private void masksStayWhenTheScoreTurns() {
    s.term("It does not change when the score is transposed or reversed.");
    ScoreOrchestra x = Orchestras.with("s:123");
    x.setMasked(0, 0, true);
    x.setMasked(0, 5, true);
    x.reverse(0);
    s.due("reversed", "x..f0", () -> Orchestras.mask(x, 0));
    x.transpose(0);
    s.due("transposed", "xf0", () -> Orchestras.mask(x, 0));
    s.due("transposed, column 5", true, () -> x.isMasked(0, 5));
    s.due("transposed, column 1", false, () -> x.isMasked(0, 1));
    x.transpose(0);
    s.due("transposed twice", "x..f0", () -> Orchestras.mask(x, 0));
  }

  private void beatsAreCountedFromZero() {
    s.term("The beats are counted from 0.");
    ScoreOrchestra x = Orchestras.with("s:123456");
    s.due("before the first beat", 0, x::beatCount);
    s.due("the first beat plays column 0", 1, () -> x.conductBeats(1));
    s.due("after the first beat", 1, x::beatCount);
  }

  private void columnsWrapAround() {
    s.term("In the beat b, the column of a section is b modulo the number of its columns.");
    ScoreOrchestra x = Orchestras.with("s:123");
    for (int volume : new int[] {1, 2, 3, 1, 2, 3, 1}) {
      s.due("beat " + x.beatCount() + " of three columns", volume, () -> x.conductBeats(1));
    }
    Orchestras.add(x, "s:5678");
    s.due("beat 7 of a section added then", 8, () -> x.nextVolume(1));
    x.conductBeats(1);
    s.due("beat 8 of a section added at beat 7", 5, () -> x.nextVolume(1));
    x.transpose(0);
    s.due("beat 8 of one column", 6, () -> x.nextVolume(0));
    ScoreOrchestra widest = Orchestras.with("s:123456");
    widest.conductBeats(5);
    s.due("beat 5 of six columns", 6, () -> widest.conductBeats(1));
    s.due("beat 6 of six columns", 1, () -> widest.conductBeats(1));
  }

  private void sectionsRestThenAreMaskedThenPlay() {
    s.term("Each section, in the order of indices, does the following: a section that rests is silent, and the "
        + "number of beats for which it rests decreases by 1; a section whose column is in its mask is silent; any "
        + "other section plays its column, so the volume of this column is its volume in this beat, and every note "
        + "of the column that is not 0 sounds.");
    ScoreOrchestra x = Orchestras.with("s:9/0", "w:12", "d:3/3");
    x.setLimit(15);
    x.setMasked(1, 1, true);
    s.due("beat 0, all play", 9 + 2 + 10, () -> x.conductBeats(1));
    s.due("beat 1, one is masked", 9 + 10, () -> x.conductBeats(1));
    s.due("beat 2, all play", 9 + 2 + 10, () -> x.conductBeats(1));
    s.due("the loudest, which is the last section, rests", 2, () -> x.restingBeats(2));
    s.due("beat 3, one is masked and one rests", 9, () -> x.conductBeats(1));
    s.due("one beat of rest is left", 1, () -> x.restingBeats(2));
    x.setMasked(2, 0, true);
    s.due("beat 4, one rests and is masked as well", 9 + 2, () -> x.conductBeats(1));
    s.due("no beat of rest is left", 0, () -> x.restingBeats(2));
    s.due("beat 5, two are masked", 9, () -> x.conductBeats(1));
    s.due("a mask is no rest", 0, () -> x.restingBeats(2));
    s.due("two notes of a column in three beats", 6, () -> x.soundCount('d', 3));
    s.due("three unmasked beats", 3, () -> x.soundCount('w', 1));
    s.due("no masked beat", 0, () -> x.soundCount('w', 2));
    s.due("each beat", 6, () -> x.soundCount('s', 9));
    s.due("notes 0 do not sound", 6L * 9 + 3 * 2 + 3 * 10, x::totalVolumeBySounds);
  }

  private void silentSectionsHaveNoVolume() {
    s.term("The volume of a silent section is 0.");
    ScoreOrchestra x = Orchestras.with("s:9", "w:9");
    x.setMasked(0, 0, true);
    s.due("masked, next", 0, () -> x.nextVolume(0));
    s.due("masked, played", 12, () -> x.conductBeats(1));
    s.due("masked, of all beats", 0, () -> x.playedVolume(0));
    x.setLimit(11);
    x.conductBeats(3);
    s.due("resting, next", 0, () -> x.nextVolume(1));
    s.due("both silent", 0, () -> x.conductBeats(2));
    s.due("resting, of all beats", 4 * 12, () -> x.playedVolume(1));
    s.due("the rest is over", 12, () -> x.nextVolume(1));
  }

  private void totalsAddAllSections() {
    s.term("The total of the beat is the sum of the volumes of all sections.");
    s.due("no section", 0, () -> new ScoreOrchestra().conductBeats(1));
    s.due("one section", 8, () -> Orchestras.with("s:8").conductBeats(1));
    s.due("five sections", 1 + 4 + 5 + 4 + 10,
        () -> Orchestras.with("s:1", "w:2", "d:3", "s:4", "w:5").conductBeats(1));
    ScoreOrchestra x = Orchestras.with("s:1", "w:2", "d:3", "s:4", "w:5");
    x.removeSection(2);
    s.due("four sections that were five", 1 + 4 + 4 + 10, () -> x.conductBeats(1));
    x.removeSection(0);
    s.due("three sections that were five", 4 + 4 + 10, () -> x.conductBeats(1));
    String winds = LARGEST.replace('s', 'w');
    s.due("the greatest of all totals", 360,
        () -> Orchestras.with(winds, winds, winds, winds, winds).conductBeats(1));
  }

  private void wavesBreakAboveTheLimit() {
    s.term("If the total is greater than the limit, the wave breaks: the fatigue of the section with the greatest "
        + "volume in this beat, and of several the one with the lowest index, increases by 1; if it is 3 then, it "
        + "becomes 0, and the section rests for 2 beats.");
    breaksAt(10, "10 of 10", 0, 0, "s:4", "s:6");
    breaksAt(9, "10 of 9", 1, 1, "s:4", "s:6");
    breaksAt(9, "the first is the loudest", 1, 0, "s:6", "s:4");
    breaksAt(9, "two are equally loud", 1, 0, "s:5", "w:0", "d:9");
    breaksAt(9, "the last two are equally loud", 1, 1, "s:1", "d:9", "s:5");
    breaksAt(99, "99 of 99", 0, 0, "s:9/9/9/9/9/9", "s:9/9/9/9/9");
    breaksAt(99, "100 of 99", 1, 0, "s:9/9/9/9/9/9", "s:9/9/9/9/9", "s:1");
    breaksAt(1, "1 of 1", 0, 0, "s:1");
    breaksAt(1, "2 of 1", 1, 0, "w:1");
    breaksAt(1, "0 of 1", 0, 0, "w:0");
    breaksAt(1, "without sections", 0, 0);
    ScoreOrchestra x = Orchestras.with("s:5", "s:5");
    x.setLimit(9);
    for (String tired : new String[] {"1 0", "2 0", "0r2 0", "0r1 0", "0 0", "1 0"}) {
      x.conductBeats(1);
      s.due("fatigue after beat " + x.beatCount(), tired,
          () -> (Orchestras.mask(x, 0) + Orchestras.mask(x, 1)).replace(".f", " ").strip());
    }
    s.due("four breaks", 4, x::breakCount);
    s.due("a break does not end the wave", 10 + 10, x::conductWave);
    s.due("two breaks in a wave", 6, x::breakCount);
  }

  private void breaksAt(int limit, String name, int breaks, int tired, String... scores) {
    ScoreOrchestra x = Orchestras.with(scores);
    x.setLimit(limit);
    x.conductBeats(1);
    s.due(name + ", breaks", breaks, x::breakCount);
    for (int i = 0; i < scores.length; i++) {
      int section = i;
      s.due(name + ", fatigue of " + section, section == tired ? breaks : 0, () -> x.fatigue(section));
    }
  }

  private void theTempoIsFromOneToFive() {
    s.term("The conductor has a tempo from 1 to 5, initially 2.");
    ScoreOrchestra x = new ScoreOrchestra();
    s.due("initially", 2, x::tempo);
    for (int i = 0; i <= 6; i++) {
      int tempo = i;
      int before = x.tempo();
      boolean fits = 1 <= tempo && tempo <= 5;
      s.due("set to " + tempo, fits ? before : (Object) IllegalArgumentException.class, () -> x.setTempo(tempo));
      s.due("after " + tempo, fits ? tempo : before, x::tempo);
    }
  }

  private void wavesLastAsLongAsTheTempo() {
    s.term("A wave consists of as many beats as the tempo.");
    s.due("initially", 2, () -> beatsOfAWave(new ScoreOrchestra()));
    for (int i = 1; i <= 5; i++) {
      int tempo = i;
      ScoreOrchestra x = Orchestras.with("s:1");
      x.setTempo(tempo);
      s.due("tempo " + tempo, tempo, () -> beatsOfAWave(x));
      s.due("tempo " + tempo + ", the sum", tempo, x::conductWave);
    }
  }

  private static int beatsOfAWave(ScoreOrchestra x) {
    x.conductWave();
    return x.beatCount();
  }

  private void theLimitIsFromOneToNinetyNine() {
    s.term("The limit is from 1 to 99, initially 30.");
    ScoreOrchestra x = new ScoreOrchestra();
    s.due("initially", 30, x::limit);
    for (int i : new int[] {0, 1, 2, 98, 99, 100}) {
      int before = x.limit();
      boolean fits = 1 <= i && i <= 99;
      s.due("set to " + i, fits ? before : (Object) IllegalArgumentException.class, () -> x.setLimit(i));
      s.due("after " + i, fits ? i : before, x::limit);
    }
    s.due("30 of 30", 0, () -> breaksOfOneBeat("s:6/6/6/6/6"));
    s.due("31 of 30", 1, () -> breaksOfOneBeat("s:6/6/6/6/7"));
  }

  private static int breaksOfOneBeat(String score) {
    ScoreOrchestra x = Orchestras.with(score);
    x.conductBeats(1);
    return x.breakCount();
  }

  private void soundsAreRecorded() {
    s.term("For each kind of section and each note from 1 to 9, it is recorded how often this note has sounded in "
        + "sections of this kind so far, those of removed sections included.");
    ScoreOrchestra x = new ScoreOrchestra();
    x.addSection('s', 1, 1);
    x.addSection('w', 1, 1);
    x.addSection('d', 1, 1);
    for (int note = 0; note <= 9; note++) {
      for (int section = 0; section < 3; section++) {
        x.setNote(section, 0, 0, note);
      }
      x.conductBeats(1 + note);
    }
    x.removeSection(0);
    x.removeSection(0);
    x.removeSection(0);
    // The notes of the loud beats break the limit of 30 nowhere: 9 + 12 + 5 is 26.
    for (char kind : KINDS) {
      for (int i = 1; i <= 9; i++) {
        int note = i;
        s.due(kind + " " + note, 1 + note, () -> x.soundCount(kind, note));
      }
      s.due(kind + " 0", IllegalArgumentException.class, () -> x.soundCount(kind, 0));
      s.due(kind + " 10", IllegalArgumentException.class, () -> x.soundCount(kind, 10));
    }
    s.due("on a new object", 0, () -> new ScoreOrchestra().soundCount('s', 1));
  }

  private void tenTotalsAreRemembered() {
    s.term("The totals of the latest 10 beats are remembered.");
    ScoreOrchestra x = Orchestras.with("s:1");
    for (int i = 1; i <= 23; i++) {
      int beats = i;
      x.setNote(0, 0, 0, 1 + beats % 9);
      x.conductBeats(1);
      int kept = Math.min(beats, 10);
      s.due("the latest of " + beats, 1 + beats % 9, () -> x.loggedTotal(0));
      s.due("the oldest of " + beats, 1 + (beats - kept + 1) % 9, () -> x.loggedTotal(kept - 1));
      s.due("one older of " + beats, NoSuchElementException.class, () -> x.loggedTotal(kept));
    }
    s.due("no beat", NoSuchElementException.class, () -> new ScoreOrchestra().loggedTotal(0));
  }

  private void predictionsPlayBeatsOnly() {
    s.term("A prediction describes what would happen if nothing but beats happened from now on.");
    ScoreOrchestra x = Orchestras.with("s:9", "w:12");
    x.setLimit(12);
    int[] totals = {11, 13, 11, 13, 11, 13, 2, 4, 11, 13};
    int sum = 0;
    for (int i = 0; i < totals.length; i++) {
      int beats = i;
      int due = sum;
      s.due("the sum of " + beats + " beats", due, () -> x.totalWithin(beats));
      sum += totals[i];
    }
    s.due("breaks in beat 1", 2, x::beatsUntilBreak);
    x.conductBeats(6);
    s.due("rests, then breaks in beat 9", 4, x::beatsUntilBreak);
    s.due("a rest is foreseen", 2 + 4 + 11, () -> x.totalWithin(3));
  }

  private void predictionsChangeNothing() {
    s.term("It does not change the state.");
    ScoreOrchestra x = Orchestras.with("s:91", "w:12");
    x.setLimit(10);
    x.conductBeats(4);
    String before = Views.of(x);
    x.totalWithin(60);
    s.due("after totalWithin", before, () -> Views.of(x));
    x.beatsUntilBreak();
    s.due("after beatsUntilBreak", before, () -> Views.of(x));
    x.nextTotal();
    x.nextVolume(0);
    s.due("after nextTotal and nextVolume", before, () -> Views.of(x));
    s.due("what can be undone", 7, x::undo);
  }
}
