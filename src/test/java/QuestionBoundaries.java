import java.util.Arrays;
import java.util.NoSuchElementException;
import java.util.function.ToIntFunction;

// Promises 13 to 34: what is asked about the sections, the next beats, and beats to come.
final class QuestionBoundaries {
  private static final String SIXES = "w:6/6/6/6/6/6";

  private final Sentences s;

  QuestionBoundaries(Sentences sentences) {
    s = sentences;
  }

  void tell() {
    beatCount();
    sectionCount();
    tempoAndLimit();
    kind();
    rowsAndColumns();
    note();
    isMasked();
    fatigue();
    restingBeats();
    isSymmetric();
    areAlike();
    noteVolume();
    columnVolume();
    columnVolumeByTransposing();
    nextVolume();
    nextTotal();
    period();
    periodBySearch();
    beatsUntilBreak();
    totalWithin();
  }

  private void beatCount() {
    s.promise(13, "Returns the number of beats so far, which is the number of the next beat.");
    ScoreOrchestra x = Orchestras.with("s:123");
    s.due("none", 0, x::beatCount);
    x.conductBeats(1);
    s.due("one", 1, x::beatCount);
    s.due("beat 1 comes next", 2, x::nextTotal);
    x.conductWave();
    s.due("a wave more", 3, x::beatCount);
    x.conductBeats(40);
    s.due("forty more", 43, x::beatCount);
    x.removeSection(0);
    s.due("those of a removed section too", 43, x::beatCount);
    x.conductBeats(1);
    s.due("one without sections", 44, x::beatCount);
  }

  private void sectionCount() {
    s.promise(14, "Returns the number of sections.");
    ScoreOrchestra x = new ScoreOrchestra();
    for (int i = 0; i <= 5; i++) {
      int count = i;
      s.due("after " + i, count, x::sectionCount);
      Check.outcome(() -> x.addSection('s', 1, 1));
    }
    s.due("after a sixth that is refused", 5, x::sectionCount);
    x.removeSection(2);
    s.due("after a removal", 4, x::sectionCount);
  }

  private void tempoAndLimit() {
    ScoreOrchestra x = new ScoreOrchestra();
    s.promise(15, "Returns the tempo.");
    s.due("initially", 2, x::tempo);
    x.setTempo(5);
    s.due("the greatest", 5, x::tempo);

    s.promise(15, "Returns the number of beats of a wave.");
    x.conductWave();
    s.due("five", x.tempo(), x::beatCount);

    s.promise(16, "Returns the limit.");
    s.due("initially", 30, x::limit);
    x.setLimit(99);
    s.due("the greatest", 99, x::limit);
  }

  private void kind() {
    s.promise(17, "Returns the kind of a section.");
    ScoreOrchestra x = Orchestras.with("d:1", "w:1", "s:1");
    s.due("drums", 'd', () -> x.kind(0));
    s.due("winds", 'w', () -> x.kind(1));
    s.due("strings", 's', () -> x.kind(2));
    s.noSuchSection(17, "kind", ScoreOrchestra::kind);
  }

  private void rowsAndColumns() {
    ScoreOrchestra x = Orchestras.with("s:123456", "w:1/2/3/4/5/6");
    s.promise(18, "Returns the number of rows of the score of a section.");
    s.due("one", 1, () -> x.rows(0));
    s.due("six", 6, () -> x.rows(1));
    s.noSuchSection(18, "rows", ScoreOrchestra::rows);

    s.promise(19, "Returns the number of columns of the score of a section.");
    s.due("six", 6, () -> x.columns(0));
    s.due("one", 1, () -> x.columns(1));
    x.transpose(1);
    s.due("six after transposing", 6, () -> x.columns(1));
    s.noSuchSection(19, "columns", ScoreOrchestra::columns);
  }

  private void note() {
    s.promise(20, "Returns a note.");
    ScoreOrchestra x = Orchestras.with("s:123/456", "w:789/012");
    s.due("the first", 1, () -> x.note(0, 0, 0));
    s.due("the end of the first row", 3, () -> x.note(0, 0, 2));
    s.due("the begin of the last row", 4, () -> x.note(0, 1, 0));
    s.due("the last", 2, () -> x.note(1, 1, 2));
    s.due("a note 0", 0, () -> x.note(1, 1, 0));

    s.promise(20, "Throws IndexOutOfBoundsException if there is no such section, or its score has no such row or "
        + "column");
    s.noSuchPlace("note", (y, at) -> y.note(at[0], at[1], at[2]));
  }

  private void isMasked() {
    s.promise(21, "Returns whether a column number is in the mask of a section.");
    ScoreOrchestra x = Orchestras.with("s:1", "s:1");
    x.setMasked(0, 5, true);
    s.due("column 5", true, () -> x.isMasked(0, 5));
    s.due("column 4", false, () -> x.isMasked(0, 4));
    s.due("column 0", false, () -> x.isMasked(0, 0));
    s.due("column 5 of another section", false, () -> x.isMasked(1, 5));

    s.noSuchSection(21, "isMasked", (y, section) -> y.isMasked(section, 0));

    s.promise(21, "Throws IllegalArgumentException if column is not between 0 and 5");
    for (int column : new int[] {-1, 6, 31, 32, 37, -27, -32, Integer.MIN_VALUE, Integer.MAX_VALUE}) {
      s.due("column " + column, IllegalArgumentException.class, () -> x.isMasked(0, column));
    }
    s.stands("column 0", () -> x.isMasked(0, 0));
    s.stands("column 5", () -> x.isMasked(0, 5));
  }

  private void fatigue() {
    s.promise(22, "Returns the fatigue of a section.");
    ScoreOrchestra x = Orchestras.with("s:1", "s:9");
    x.setLimit(9);
    for (int fatigue : new int[] {1, 2, 0}) {
      x.conductBeats(1);
      s.due("of the loudest after beat " + x.beatCount(), fatigue, () -> x.fatigue(1));
      s.due("of the other after beat " + x.beatCount(), 0, () -> x.fatigue(0));
    }
    s.noSuchSection(22, "fatigue", ScoreOrchestra::fatigue);
  }

  private void restingBeats() {
    s.promise(23, "Returns for how many beats a section rests.");
    ScoreOrchestra x = Orchestras.with("s:1", "s:9");
    x.setLimit(9);
    for (int rest : new int[] {0, 0, 2, 1, 0, 0, 0, 2}) {
      x.conductBeats(1);
      s.due("of the loudest after beat " + x.beatCount(), rest, () -> x.restingBeats(1));
      s.due("of the other after beat " + x.beatCount(), 0, () -> x.restingBeats(0));
    }
    s.noSuchSection(23, "restingBeats", ScoreOrchestra::restingBeats);
  }

  private void isSymmetric() {
    s.promise(24, "Returns whether the score of a section would be the same if it was transposed.");
    isSymmetric("s:0", true);
    isSymmetric("s:5", true);
    isSymmetric("w:11", false);
    isSymmetric("w:0/0", false);
    isSymmetric("d:12/21", true);
    isSymmetric("d:12/31", false);
    isSymmetric("s:111/111", false);
    isSymmetric("s:123456/200000/300000/400000/500000/600000", true);
    isSymmetric("s:123456/200000/300000/400000/500000/700000", false);
    isSymmetric("s:000000/000000/000000/000000/000001/000000", false);
    isSymmetric("s:100000/020000/003000/000400/000050/000006", true);
    s.noSuchSection(24, "isSymmetric", ScoreOrchestra::isSymmetric);
  }

  private void isSymmetric(String score, boolean due) {
    ScoreOrchestra x = Orchestras.with(score);
    s.due(score, due, () -> x.isSymmetric(0));
    s.due(score + " stays", score, () -> Orchestras.score(x, 0));
  }

  private void areAlike() {
    s.promise(25, "Returns whether two sections have the same score: the same numbers of rows and columns and the same "
        + "notes.");
    areAlike("s:5", "s:5", true);
    areAlike("s:5", "d:5", true);
    areAlike("s:5", "s:6", false);
    areAlike("s:00", "s:0/0", false);
    areAlike("s:00", "s:000", false);
    areAlike("s:0", "s:0/0", false);
    areAlike("s:123/456", "w:123/456", true);
    areAlike("s:123/456", "w:123/457", false);
    areAlike("s:123/456", "w:023/456", false);
    areAlike("s:123/456", "w:123456", false);
    String largest = "s:111111/111111/111111/111111/111111/111111";
    areAlike(largest, largest, true);
    areAlike(largest, largest.substring(0, 42) + "2", false);
    ScoreOrchestra x = Orchestras.with("s:12", "s:1/2");
    x.setMasked(0, 0, true);
    x.transpose(0);
    s.due("after transposing, with another mask", true, () -> x.areAlike(0, 1));

    s.promise(25, "- second: the index of the other section, possibly the same");
    s.due("0 and 0", true, () -> x.areAlike(0, 0));
    s.due("1 and 1", true, () -> x.areAlike(1, 1));

    s.promise(25, "Throws IndexOutOfBoundsException if there is no such section, for either argument");
    for (int section : new int[] {-1, 2, 5, Integer.MIN_VALUE, Integer.MAX_VALUE}) {
      s.due(section + " and 0", IndexOutOfBoundsException.class, () -> x.areAlike(section, 0));
      s.due("0 and " + section, IndexOutOfBoundsException.class, () -> x.areAlike(0, section));
      s.due(section + " twice", IndexOutOfBoundsException.class, () -> x.areAlike(section, section));
    }
  }

  private void areAlike(String first, String second, boolean due) {
    ScoreOrchestra x = Orchestras.with(first, second);
    s.due(first + " and " + second, due, () -> x.areAlike(0, 1));
    s.due(second + " and " + first, due, () -> x.areAlike(1, 0));
  }

  private void noteVolume() {
    ScoreOrchestra x = new ScoreOrchestra();
    s.promise(26, "Returns the volume of a note for a kind.");
    s.due("strings 9", 9, () -> x.noteVolume('s', 9));
    s.due("winds 5", 10, () -> x.noteVolume('w', 5));
    s.due("winds 6, the first of volume 12", 12, () -> x.noteVolume('w', 6));
    s.due("winds 7, at most 12", 12, () -> x.noteVolume('w', 7));
    s.due("winds 9, at most 12", 12, () -> x.noteVolume('w', 9));
    s.due("drums 8", 1, () -> x.noteVolume('d', 8));
    s.due("drums 9", 5, () -> x.noteVolume('d', 9));

    s.promise(26, "Throws IllegalArgumentException if there is no such kind, or note is not between 0 and 9");
    for (int note : new int[] {-1, 10, Integer.MIN_VALUE, Integer.MAX_VALUE, 256}) {
      s.due("note " + note, IllegalArgumentException.class, () -> x.noteVolume('w', note));
    }
    for (int code : new int[] {0, 'S', 'c', 'e', 'r', 't', 'v', 'x', 256 + 's', 65535}) {
      s.due("kind " + code, IllegalArgumentException.class, () -> x.noteVolume((char) code, 0));
    }
    for (char kind : new char[] {'s', 'w', 'd'}) {
      s.stands(kind + " 0", () -> x.noteVolume(kind, 0));
      s.stands(kind + " 9", () -> x.noteVolume(kind, 9));
    }
  }

  private void columnVolume() {
    s.promise(27, "Returns the volume of a column of a section, whether it is masked or not.");
    ScoreOrchestra x = Orchestras.with("s:12/34", SIXES);
    s.due("not masked", 6, () -> x.columnVolume(0, 1));
    x.setMasked(0, 1, true);
    s.due("masked", 6, () -> x.columnVolume(0, 1));
    s.due("beside the masked one", 4, () -> x.columnVolume(0, 0));
    x.conductBeats(3);
    s.due("it rests", 2, () -> x.restingBeats(1));
    s.due("resting", 72, () -> x.columnVolume(1, 0));

    s.promise(27, "Throws IndexOutOfBoundsException if there is no such section, or its score has no such column");
    s.noSuchColumn("columnVolume", ScoreOrchestra::columnVolume);
  }

  private void columnVolumeByTransposing() {
    s.promise(28, "Returns the same number as columnVolume, found by adding the volumes in a row of the transposed "
        + "score.");
    ScoreOrchestra x = Orchestras.with("s:123456", SIXES, "d:123/456", "w:1", "d:12/34/56/78/90");
    int[][] volumes = {{1, 2, 3, 4, 5, 6}, {72}, {6, 6, 6}, {2}, {25, 4}};
    x.setMasked(0, 5, true);
    for (int i = 0; i < volumes.length; i++) {
      for (int j = 0; j < volumes[i].length; j++) {
        int section = i;
        int column = j;
        s.due(section + ", " + column, volumes[i][j], () -> x.columnVolumeByTransposing(section, column));
        s.due(section + ", " + column + ", columnVolume", volumes[i][j], () -> x.columnVolume(section, column));
      }
    }
    s.due("the score stays", "d:123/456", () -> Orchestras.score(x, 2));

    s.promise(28, "Throws IndexOutOfBoundsException if there is no such section, or its score has no such column");
    s.noSuchColumn("columnVolumeByTransposing", ScoreOrchestra::columnVolumeByTransposing);
  }

  private void nextVolume() {
    s.promise(29, "Returns the volume that a section would have in the next beat.");
    ScoreOrchestra x = Orchestras.with("s:78", "w:1");
    x.setMasked(0, 1, true);
    x.setLimit(8);
    for (int volume : new int[] {7, 0, 7, 0, 7, 0, 0, 0, 7}) {
      s.due("beat " + x.beatCount(), volume, () -> x.nextVolume(0));
      x.conductBeats(1);
    }
    s.due("the other", 2, () -> x.nextVolume(1));
    s.noSuchSection(29, "nextVolume", ScoreOrchestra::nextVolume);
  }

  private void nextTotal() {
    s.promise(30, "Returns the total that the next beat would have.");
    s.due("without sections", 0, () -> new ScoreOrchestra().nextTotal());
    ScoreOrchestra x = Orchestras.with(SIXES, "s:12", "d:12", "s:9", "w:4");
    x.setMasked(3, 0, true);
    x.setLimit(99);
    for (int total : new int[] {72 + 1 + 5 + 8, 72 + 2 + 1 + 8, 72 + 1 + 5 + 8}) {
      s.due("beat " + x.beatCount(), total, x::nextTotal);
      s.due("beat " + x.beatCount() + ", asked again", total, x::nextTotal);
      s.due("beat " + x.beatCount() + ", played", total, () -> x.conductBeats(1));
    }
    ScoreOrchestra resting = Orchestras.with(SIXES, "s:1");
    resting.conductBeats(3);
    s.due("a section rests", 1, resting::nextTotal);
    resting.conductBeats(1);
    s.due("it rests once more", 1, resting::nextTotal);
    resting.conductBeats(1);
    s.due("it plays again", 73, resting::nextTotal);
  }

  private void period() {
    s.promise(31, "Returns the lowest number of beats, at least 1, that is a multiple of the number of columns of each "
        + "section, found by greatest common divisors.");
    periodsAre(ScoreOrchestra::period);
    s.promise(31, "Returns the number of beats, 1 without sections.");
    s.due("a new object", 1, () -> new ScoreOrchestra().period());
    ScoreOrchestra x = Orchestras.with("s:123456");
    x.removeSection(0);
    s.due("the last one was removed", 1, x::period);
  }

  private void periodBySearch() {
    s.promise(32, "Returns the same number as period, found by trying numbers.");
    periodsAre(ScoreOrchestra::periodBySearch);
    s.due("without sections", 1, () -> new ScoreOrchestra().periodBySearch());
  }

  private void periodsAre(ToIntFunction<ScoreOrchestra> call) {
    int[][] columns = {{1}, {2}, {3}, {4}, {5}, {6}, {1, 1, 1, 1, 1}, {6, 6, 6, 6, 6}, {2, 3}, {3, 2}, {2, 4}, {4, 6},
        {6, 4}, {5, 6}, {4, 5}, {3, 4, 5}, {4, 5, 6}, {6, 5, 4}, {2, 3, 4, 5, 6}, {6, 5, 4, 3, 2}, {1, 2, 3, 4, 6}};
    int[] due = {1, 2, 3, 4, 5, 6, 1, 6, 6, 6, 4, 12, 12, 30, 20, 60, 60, 60, 60, 60, 12};
    for (int i = 0; i < due.length; i++) {
      ScoreOrchestra x = new ScoreOrchestra();
      for (int number : columns[i]) {
        x.addSection('w', 1, number);
      }
      s.due("of " + Arrays.toString(columns[i]), due[i], () -> call.applyAsInt(x));
    }
    ScoreOrchestra x = Orchestras.with("s:123/456", "w:12345");
    x.transpose(0);
    s.due("of a transposed score", 10, () -> call.applyAsInt(x));
  }

  private void beatsUntilBreak() {
    s.promise(33, "Predicts after how many beats the wave breaks for the first time, the beat in which it breaks "
        + "included.");
    ScoreOrchestra x = Orchestras.with("s:123456");
    for (int limit = 5; limit >= 1; limit--) {
      int due = limit + 1;
      x.setLimit(limit);
      s.due("limit " + limit, due, x::beatsUntilBreak);
    }
    x.conductBeats(1);
    s.due("in the next beat", 1, x::beatsUntilBreak);
    x.setLimit(5);
    s.due("from beat 1 on", 5, x::beatsUntilBreak);
    x.conductBeats(5);
    s.due("after it has broken, the first time from now on", 6, x::beatsUntilBreak);
    x.setMasked(0, 5, true);
    s.due("the loud column is masked", NoSuchElementException.class, x::beatsUntilBreak);

    s.promise(33, "Throws NoSuchElementException if the wave does not break within 60 beats");
    s.due("without sections", NoSuchElementException.class, () -> new ScoreOrchestra().beatsUntilBreak());
    s.due("at the limit in each beat", NoSuchElementException.class, () -> untilBreak(20, 0));
    s.due("above it in the sixtieth beat", 60, () -> untilBreak(19, 0));
    s.due("above it in the first beat", 1, () -> untilBreak(19, 59));
    s.due("above it in the sixtieth beat again", 60, () -> untilBreak(19, 60));
  }

  // The three loud columns meet in the beats 59, 119 and so on alone, with a total of 20.
  private static int untilBreak(int limit, int beats) {
    ScoreOrchestra x = Orchestras.with("s:0009", "s:00009", "s:000002");
    x.setLimit(limit);
    for (int i = 0; i < beats; i++) {
      x.conductBeats(1);
    }
    return x.beatsUntilBreak();
  }

  private void totalWithin() {
    s.promise(34, "Predicts the sum of the totals of some beats.");
    ScoreOrchestra x = Orchestras.with("s:123456");
    x.conductBeats(5);
    s.due("no beat", 0, () -> x.totalWithin(0));
    s.due("one", 6, () -> x.totalWithin(1));
    s.due("two", 7, () -> x.totalWithin(2));
    s.due("sixty", 210, () -> x.totalWithin(60));
    s.due("without sections", 0, () -> new ScoreOrchestra().totalWithin(60));
    s.due("with rests", 36 * 72, () -> Orchestras.with(SIXES).totalWithin(60));
    x.conductBeats(1);
    s.due("another one", 1, () -> x.totalWithin(1));

    s.promise(34, "Throws IllegalArgumentException if beats is not between 0 and 60");
    for (int beats : new int[] {-1, 61, Integer.MIN_VALUE, Integer.MAX_VALUE, 256}) {
      s.due("beats " + beats, IllegalArgumentException.class, () -> x.totalWithin(beats));
    }
    s.stands("beats 0", () -> x.totalWithin(0));
    s.stands("beats 60", () -> x.totalWithin(60));
  }
}
