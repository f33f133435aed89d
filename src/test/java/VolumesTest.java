import java.util.NoSuchElementException;

// Promises 26 to 34: volumes, periods and predictions.
public final class VolumesTest {
  private static final Check CHECK = new Check("VolumesTest");

  public static void main(String[] args) {
    notesHaveVolumes();
    columnsHaveVolumes();
    theNextBeatIsAskedFor();
    periodsAreFound();
    breaksArePredicted();
    totalsArePredicted();
    CHECK.end();
  }

  private static void notesHaveVolumes() {
    ScoreOrchestra x = new ScoreOrchestra();
    int[] strings = {0, 1, 2, 3, 4, 5, 6, 7, 8, 9};
    int[] winds = {0, 2, 4, 6, 8, 10, 12, 12, 12, 12};
    int[] drums = {0, 5, 1, 5, 1, 5, 1, 5, 1, 5};
    for (int i = 0; i <= 9; i++) {
      int note = i;
      CHECK.due("26: strings " + note, strings[note], () -> x.noteVolume('s', note));
      CHECK.due("26: winds " + note, winds[note], () -> x.noteVolume('w', note));
      CHECK.due("26: drums " + note, drums[note], () -> x.noteVolume('d', note));
    }
    for (int note : new int[] {-1, 10, Integer.MIN_VALUE, Integer.MAX_VALUE}) {
      CHECK.due("26: note " + note, IllegalArgumentException.class, () -> x.noteVolume('s', note));
    }
    CHECK.due("26: kind x", IllegalArgumentException.class, () -> x.noteVolume('x', 0));
    CHECK.due("26: kind W", IllegalArgumentException.class, () -> x.noteVolume('W', 5));
  }

  private static void columnsHaveVolumes() {
    ScoreOrchestra x = Orchestras.with("s:123/456", "w:79/31/10", "d:80/35/44");
    x.setMasked(0, 1, true);
    int[][] volumes = {{5, 7, 9}, {20, 14}, {7, 6}};
    for (int i = 0; i < volumes.length; i++) {
      for (int j = 0; j < volumes[i].length; j++) {
        int section = i;
        int column = j;
        String name = section + ", " + column;
        CHECK.due("27: " + name, volumes[section][column], () -> x.columnVolume(section, column));
        CHECK.due("28: " + name, volumes[section][column], () -> x.columnVolumeByTransposing(section, column));
      }
    }
    int[][] wrong = {{0, 3}, {0, -1}, {1, 2}, {3, 0}, {-1, 0}, {0, 6}, {0, Integer.MIN_VALUE}, {Integer.MAX_VALUE, 0}};
    for (int[] at : wrong) {
      String name = at[0] + ", " + at[1];
      CHECK.due("27: " + name, IndexOutOfBoundsException.class, () -> x.columnVolume(at[0], at[1]));
      CHECK.due("28: " + name, IndexOutOfBoundsException.class, () -> x.columnVolumeByTransposing(at[0], at[1]));
    }
    CHECK.due("28: the score does not change", "w:79/31/10", () -> Orchestras.score(x, 1));
  }

  private static void theNextBeatIsAskedFor() {
    ScoreOrchestra x = Orchestras.with("s:49", "w:123", "s:1");
    x.setMasked(1, 2, true);
    x.setLimit(12);
    CHECK.due("29: section 0 in beat 0", 4, () -> x.nextVolume(0));
    CHECK.due("29: section 1 in beat 0", 2, () -> x.nextVolume(1));
    CHECK.due("30: beat 0", 7, x::nextTotal);
    x.conductBeats(2);
    CHECK.due("29: section 0 in beat 2", 4, () -> x.nextVolume(0));
    CHECK.due("29: section 1 in beat 2, masked", 0, () -> x.nextVolume(1));
    CHECK.due("30: beat 2", 5, x::nextTotal);
    x.setLimit(9);
    x.conductBeats(2);
    CHECK.due("22: two breaks", 2, () -> x.fatigue(0));
    x.conductBeats(2);
    CHECK.due("23: it rests", 2, () -> x.restingBeats(0));
    CHECK.due("29: section 0 in beat 6, resting", 0, () -> x.nextVolume(0));
    CHECK.due("30: beat 6", 3, x::nextTotal);
    CHECK.due("13: still six beats", 6, x::beatCount);
    CHECK.due("29: section 0 in beat 7, still resting", 0, () -> {
      x.conductBeats(1);
      return x.nextVolume(0);
    });
    x.undo();
    CHECK.due("23: still the same rest", 2, () -> x.restingBeats(0));
    CHECK.due("29: no section 3", IndexOutOfBoundsException.class, () -> x.nextVolume(3));
    CHECK.due("29: no section -1", IndexOutOfBoundsException.class, () -> x.nextVolume(-1));
    CHECK.due("30: without sections", 0, () -> new ScoreOrchestra().nextTotal());
  }

  private static void periodsAreFound() {
    periodIs(1);
    periodIs(1, 1, 1);
    periodIs(6, 2, 3);
    periodIs(6, 6, 2, 3);
    periodIs(12, 4, 6);
    periodIs(60, 4, 5, 6);
    periodIs(60, 5, 4, 3, 2, 1);
    periodIs(30, 6, 5, 5, 2, 3);
    periodIs(5, 5);
  }

  private static void periodIs(int due, int... columns) {
    ScoreOrchestra x = new ScoreOrchestra();
    for (int number : columns) {
      x.addSection('s', 1, number);
    }
    CHECK.due("31: period " + due, due, x::period);
    CHECK.due("32: period " + due, due, x::periodBySearch);
  }

  private static void breaksArePredicted() {
    CHECK.due("33: in beat 7", 8, () -> breakOf("s:1119", "s:140", 12));
    CHECK.due("33: in beat 3", 4, () -> breakOf("s:1119", "s:140", 9));
    CHECK.due("33: never", NoSuchElementException.class, () -> breakOf("s:1119", "s:140", 13));
    CHECK.due("33: at once", 1, () -> breakOf("s:5", "s:5", 9));
    CHECK.due("33: without sections", NoSuchElementException.class, () -> new ScoreOrchestra().beatsUntilBreak());
    ScoreOrchestra late = Orchestras.with("s:1111", "s:11111", "s:111112");
    late.setNote(0, 0, 3, 9);
    late.setNote(1, 0, 4, 9);
    late.setNote(2, 0, 5, 9);
    late.setLimit(26);
    CHECK.due("33: in the last beat that counts", 60, late::beatsUntilBreak);
    CHECK.due("13: nothing was played", 0, late::beatCount);
    CHECK.due("35: nothing broke", 0, late::breakCount);
    late.setLimit(27);
    CHECK.due("33: not within 60 beats", NoSuchElementException.class, late::beatsUntilBreak);
    late.setLimit(26);
    late.conductBeats(40);
    CHECK.due("33: from beat 40 on", 20, late::beatsUntilBreak);
  }

  private static int breakOf(String first, String second, int limit) {
    ScoreOrchestra x = Orchestras.with(first, second);
    x.setLimit(limit);
    return x.beatsUntilBreak();
  }

  private static void totalsArePredicted() {
    ScoreOrchestra x = Orchestras.with("s:9", "w:12");
    x.setLimit(10);
    CHECK.due("34: no beat", 0, () -> x.totalWithin(0));
    CHECK.due("34: one beat", 11, () -> x.totalWithin(1));
    CHECK.due("34: three beats, then a rest of two", 11 + 13 + 11 + 4 + 2 + 13, () -> x.totalWithin(6));
    CHECK.due("34: the same again", 11 + 13 + 11 + 4 + 2 + 13, () -> x.totalWithin(6));
    CHECK.due("34: sixty beats", 36 * 9 + 30 * 6, () -> x.totalWithin(60));
    CHECK.due("13: nothing was played", 0, x::beatCount);
    CHECK.due("37: nothing was counted", 0L, x::totalVolume);
    CHECK.due("22: nobody is tired", 0, () -> x.fatigue(0));
    CHECK.due("12: as it was predicted", 54, () -> x.conductBeats(6));
    for (int beats : new int[] {-1, 61, Integer.MIN_VALUE, Integer.MAX_VALUE}) {
      CHECK.due("34: beats " + beats, IllegalArgumentException.class, () -> x.totalWithin(beats));
    }
  }
}
