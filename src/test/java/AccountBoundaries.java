import java.util.NoSuchElementException;

// Promises 35 to 46: what was played, the log, the rankings, means and shares.
final class AccountBoundaries {
  private static final int[] NO_RANKS = {-1, -2, Integer.MIN_VALUE, Integer.MAX_VALUE, 256};
  private static final String SIXES = "w:6/6/6/6/6/6";

  private final Sentences s;

  AccountBoundaries(Sentences sentences) {
    s = sentences;
  }

  void tell() {
    breakCount();
    playedVolume();
    totalVolume();
    totalVolumeBySounds();
    soundCount();
    greatestTotal();
    loggedTotal();
    sectionByVolume();
    noteBySounds();
    meanTotal();
    maskedShare();
    isConsistent();
  }

  private void breakCount() {
    s.promise(35, "Returns how often the wave has broken so far.");
    ScoreOrchestra x = Orchestras.with("s:5", "s:46");
    x.setLimit(10);
    s.due("before any beat", 0, x::breakCount);
    x.conductBeats(1);
    s.due("below the limit", 0, x::breakCount);
    x.conductBeats(1);
    s.due("above the limit", 1, x::breakCount);
    x.setLimit(11);
    x.conductBeats(2);
    s.due("at the limit", 1, x::breakCount);
    x.removeSection(1);
    x.removeSection(0);
    x.conductBeats(40);
    s.due("without sections", 1, x::breakCount);
    ScoreOrchestra loud = Orchestras.with(SIXES);
    loud.conductBeats(40);
    s.due("three of each five beats", 24, loud::breakCount);
  }

  private void playedVolume() {
    s.promise(36, "Returns the sum of the volumes of a section in all beats since it was added.");
    ScoreOrchestra x = Orchestras.with("s:9");
    s.due("before any beat", 0, () -> x.playedVolume(0));
    x.conductBeats(40);
    s.due("forty beats", 360, () -> x.playedVolume(0));
    Orchestras.add(x, "w:12");
    s.due("added now", 0, () -> x.playedVolume(1));
    x.conductBeats(3);
    s.due("three beats later", 2 + 4 + 2, () -> x.playedVolume(1));
    s.due("of the older one", 387, () -> x.playedVolume(0));
    x.removeSection(0);
    s.due("with another index", 8, () -> x.playedVolume(0));
    x.setNote(0, 0, 0, 0);
    x.setNote(0, 0, 1, 0);
    s.due("with other notes", 8, () -> x.playedVolume(0));
    s.noSuchSection(36, "playedVolume", ScoreOrchestra::playedVolume);
  }

  private void totalVolume() {
    s.promise(37, "Returns the sum of the totals of all beats so far, counted as they were played.");
    s.due("before any beat", 0L, () -> new ScoreOrchestra().totalVolume());
    ScoreOrchestra x = played();
    s.due("those of removed sections too", 40L * 23 + 40 * 12, x::totalVolume);
    s.due("the loudest sections, one of them resting at last", 3L * 360 + 2 * 288, () -> loudest().totalVolume());
  }

  private void totalVolumeBySounds() {
    s.promise(38, "Returns the same number as totalVolume, computed from the recorded sounds.");
    s.due("before any beat", 0L, () -> new ScoreOrchestra().totalVolumeBySounds());
    ScoreOrchestra x = played();
    s.due("those of removed sections too", 40L * 23 + 40 * 12, x::totalVolumeBySounds);
    s.due("the loudest sections, one of them resting at last", 3L * 360 + 2 * 288,
        () -> loudest().totalVolumeBySounds());
  }

  // Three kinds for forty beats, and winds for forty more.
  private static ScoreOrchestra played() {
    ScoreOrchestra x = Orchestras.with("s:6", "d:3", "w:6");
    x.conductBeats(40);
    x.removeSection(1);
    x.removeSection(0);
    x.conductBeats(40);
    return x;
  }

  private static ScoreOrchestra loudest() {
    ScoreOrchestra x = Orchestras.with(SIXES, SIXES, SIXES, SIXES, SIXES);
    x.conductBeats(5);
    return x;
  }

  private void soundCount() {
    s.promise(39, "Returns how often a note has sounded in sections of a kind so far.");
    ScoreOrchestra x = Orchestras.with("d:19/90", "w:9");
    s.due("before any beat", 0, () -> x.soundCount('d', 9));
    x.conductBeats(40);
    s.due("note 1, each second beat", 20, () -> x.soundCount('d', 1));
    s.due("note 9 in both columns", 40, () -> x.soundCount('d', 9));
    s.due("note 9 of another kind", 40, () -> x.soundCount('w', 9));
    s.due("note 9 of a kind without sections", 0, () -> x.soundCount('s', 9));
    s.due("note 8", 0, () -> x.soundCount('d', 8));

    s.promise(39, "Throws IllegalArgumentException if there is no such kind, or note is not between 1 and 9");
    for (int note : new int[] {0, 10, -1, Integer.MIN_VALUE, Integer.MAX_VALUE, 256 + 1}) {
      s.due("note " + note, IllegalArgumentException.class, () -> x.soundCount('d', note));
    }
    for (int code : new int[] {0, 'D', 'c', 'e', 'r', 't', 'v', 'x', 256 + 'd', 65535}) {
      s.due("kind " + code, IllegalArgumentException.class, () -> x.soundCount((char) code, 1));
    }
    for (char kind : new char[] {'s', 'w', 'd'}) {
      s.stands(kind + " 1", () -> x.soundCount(kind, 1));
      s.stands(kind + " 9", () -> x.soundCount(kind, 9));
    }
  }

  private void greatestTotal() {
    s.promise(40, "Returns the greatest total of a beat so far.");
    ScoreOrchestra x = Orchestras.with("s:495");
    for (int greatest : new int[] {4, 9, 9, 9}) {
      x.conductBeats(1);
      s.due("after beat " + x.beatCount(), greatest, x::greatestTotal);
    }
    x.removeSection(0);
    x.conductBeats(40);
    s.due("older than the log", 9, x::greatestTotal);
    ScoreOrchestra silent = new ScoreOrchestra();
    silent.conductBeats(1);
    s.due("a beat of 0", 0, silent::greatestTotal);

    s.promise(40, "Throws NoSuchElementException if there was no beat");
    s.due("a new object", NoSuchElementException.class, () -> new ScoreOrchestra().greatestTotal());
    s.due("sections and no beat", NoSuchElementException.class, () -> Orchestras.with("s:9").greatestTotal());
    silent.undo();
    s.due("the only beat is undone", NoSuchElementException.class, silent::greatestTotal);
  }

  private void loggedTotal() {
    s.promise(41, "Returns a remembered total.");
    ScoreOrchestra x = Orchestras.with("s:123456");
    x.conductBeats(1);
    s.due("the only one", 1, () -> x.loggedTotal(0));
    x.conductBeats(9);
    s.due("the oldest of ten", 1, () -> x.loggedTotal(9));
    x.conductBeats(1);
    s.due("the oldest of eleven", 2, () -> x.loggedTotal(9));

    s.promise(41, "- recency: 0 for the latest beat, 1 for the one before, and so on");
    int[] due = {5, 4, 3, 2, 1, 6, 5, 4, 3, 2};
    for (int i = 0; i < due.length; i++) {
      int recency = i;
      s.due("recency " + recency, due[recency], () -> x.loggedTotal(recency));
    }

    s.promise(41, "Throws NoSuchElementException if there is no such beat in the log");
    s.due("the eleventh of eleven", NoSuchElementException.class, () -> x.loggedTotal(10));
    for (int recency : NO_RANKS) {
      s.due("recency " + recency, NoSuchElementException.class, () -> x.loggedTotal(recency));
    }
    ScoreOrchestra few = Orchestras.with("s:9");
    s.due("no beat", NoSuchElementException.class, () -> few.loggedTotal(0));
    few.conductBeats(9);
    s.stands("the ninth of nine", () -> few.loggedTotal(8));
    s.due("the tenth of nine", NoSuchElementException.class, () -> few.loggedTotal(9));
    few.conductBeats(1);
    s.stands("the tenth of ten", () -> few.loggedTotal(9));
    s.due("the eleventh of ten", NoSuchElementException.class, () -> few.loggedTotal(10));
    few.undo();
    s.due("the tenth is undone", NoSuchElementException.class, () -> few.loggedTotal(9));
  }

  private void sectionByVolume() {
    s.promise(42, "Returns the section at a rank when sections are sorted by played volume in descending order, then "
        + "by fatigue in ascending order, then by index in ascending order.");
    ScoreOrchestra x = Orchestras.with("s:1", "s:1", "s:1");
    rankAs(x, "nothing played", 0, 1, 2);
    x.conductBeats(1);
    rankAs(x, "all have played the same", 0, 1, 2);
    x.setLimit(2);
    x.conductBeats(1);
    rankAs(x, "the first one is tired", 1, 2, 0);
    x.setNote(1, 0, 0, 2);
    x.conductBeats(1);
    rankAs(x, "the second one has played more, tired too", 1, 2, 0);
    x.setLimit(30);
    x.setNote(0, 0, 0, 4);
    x.conductBeats(1);
    rankAs(x, "the first one has played most, though tired", 0, 1, 2);
    ScoreOrchestra five = Orchestras.with("s:1", "s:2", "s:3", "s:4", "s:5");
    five.conductBeats(1);
    rankAs(five, "five in descending order", 4, 3, 2, 1, 0);

    s.promise(42, "Returns the index of the section.");
    five.removeSection(4);
    five.removeSection(0);
    rankAs(five, "with other indices", 2, 1, 0);

    s.promise(42, "Throws NoSuchElementException if there is no such rank");
    s.due("rank 0 without sections", NoSuchElementException.class, () -> new ScoreOrchestra().sectionByVolume(0));
    s.due("rank 3 of three", NoSuchElementException.class, () -> x.sectionByVolume(3));
    for (int rank : NO_RANKS) {
      s.due("rank " + rank, NoSuchElementException.class, () -> x.sectionByVolume(rank));
    }
    s.due("rank 3 of three that were five", NoSuchElementException.class, () -> five.sectionByVolume(3));
    s.due("rank 4 of three that were five", NoSuchElementException.class, () -> five.sectionByVolume(4));
    five.addSection('s', 1, 1);
    five.addSection('s', 1, 1);
    s.due("rank 4 of five", 4, () -> five.sectionByVolume(4));
    s.due("rank 5 of five", NoSuchElementException.class, () -> five.sectionByVolume(5));
  }

  private void rankAs(ScoreOrchestra x, String name, int... due) {
    for (int i = 0; i < due.length; i++) {
      int rank = i;
      s.due(name + ", rank " + rank, due[rank], () -> x.sectionByVolume(rank));
    }
  }

  private void noteBySounds() {
    s.promise(43, "Returns the note at a rank when the notes 1 to 9 are sorted by how often they have sounded in all "
        + "kinds in descending order, then by note in descending order.");
    ScoreOrchestra x = Orchestras.with("s:1", "w:2/1", "d:2/3");
    soundAs(x, "nothing played", 9, 8, 7, 6, 5, 4, 3, 2, 1);
    x.conductBeats(1);
    soundAs(x, "of three kinds", 2, 1, 3, 9, 8, 7, 6, 5, 4);
    x.setNote(2, 0, 0, 9);
    x.conductBeats(1);
    soundAs(x, "of two beats", 1, 2, 3, 9, 8, 7, 6, 5, 4);
    x.removeSection(0);
    x.removeSection(0);
    soundAs(x, "of removed sections", 1, 2, 3, 9, 8, 7, 6, 5, 4);

    s.promise(43, "Throws NoSuchElementException if there is no such rank");
    s.due("rank 9", NoSuchElementException.class, () -> x.noteBySounds(9));
    s.due("rank 9 of a new object", NoSuchElementException.class, () -> new ScoreOrchestra().noteBySounds(9));
    for (int rank : NO_RANKS) {
      s.due("rank " + rank, NoSuchElementException.class, () -> x.noteBySounds(rank));
    }
  }

  private void soundAs(ScoreOrchestra x, String name, int... due) {
    for (int i = 0; i < due.length; i++) {
      int rank = i;
      s.due(name + ", rank " + rank, due[rank], () -> x.noteBySounds(rank));
    }
  }

  private void meanTotal() {
    s.promise(44, "Returns the mean total of all beats so far: the sum divided by the number of beats, both converted "
        + "to double.");
    ScoreOrchestra x = Orchestras.with("s:12");
    x.conductBeats(1);
    s.due("one beat", 1.0, x::meanTotal);
    x.conductBeats(1);
    s.due("not rounded", 1.5, x::meanTotal);
    x.conductBeats(1);
    s.due("three beats", 4.0 / 3.0, x::meanTotal);
    x.conductBeats(40);
    s.due("beats that have left the log", 64.0 / 43.0, x::meanTotal);
    ScoreOrchestra silent = new ScoreOrchestra();
    silent.conductBeats(3);
    s.due("beats of 0", 0.0, silent::meanTotal);

    s.promise(44, "Throws ArithmeticException if there was no beat");
    s.due("a new object", ArithmeticException.class, () -> new ScoreOrchestra().meanTotal());
    s.due("sections and no beat", ArithmeticException.class, () -> Orchestras.with("s:9").meanTotal());
    silent.undo();
    s.due("the only beats are undone", ArithmeticException.class, silent::meanTotal);
  }

  private void maskedShare() {
    s.promise(45, "Returns the share of the columns of a score that are in the mask of its section among all its "
        + "columns, both numbers converted to float.");
    for (int columns = 1; columns <= 6; columns++) {
      ScoreOrchestra x = new ScoreOrchestra();
      x.addSection('w', 1, columns);
      s.due("none of " + columns, 0f, () -> x.maskedShare(0));
      for (int masked = 1; masked <= columns; masked++) {
        x.setMasked(0, masked - 1, true);
        s.due(masked + " of " + columns, (float) masked / (float) columns, () -> x.maskedShare(0));
      }
    }
    ScoreOrchestra x = Orchestras.with("s:12");
    for (int column = 2; column <= 5; column++) {
      x.setMasked(0, column, true);
    }
    s.due("numbers without a column do not count", 0f, () -> x.maskedShare(0));
    x.setMasked(0, 1, true);
    s.due("one of two", 0.5f, () -> x.maskedShare(0));
    x.transpose(0);
    s.due("none of one after transposing", 0f, () -> x.maskedShare(0));
    s.noSuchSection(45, "maskedShare", ScoreOrchestra::maskedShare);
  }

  private void isConsistent() {
    s.promise(46, "Checks the state: totalVolume and totalVolumeBySounds agree, columnVolume and "
        + "columnVolumeByTransposing agree for all columns of all sections, and period and periodBySearch agree.");
    ScoreOrchestra x = Orchestras.with("s:123/456", "w:987654", "d:12345/54321", "w:1/2/3/4/5/6", SIXES);
    s.due("before any beat", true, x::isConsistent);
    x.setMasked(0, 1, true);
    x.conductBeats(40);
    s.due("after breaks, rests and masks", true, x::isConsistent);
    x.transpose(2);
    x.reverse(1);
    x.raise(3, 3);
    s.due("after other scores", true, x::isConsistent);
    x.conductWave();
    x.removeSection(0);
    s.due("after a removal", true, x::isConsistent);
    x.undo();
    s.due("after undo", true, x::isConsistent);

    s.promise(46, "Returns true if all of this holds.");
    s.due("a new object", true, () -> new ScoreOrchestra().isConsistent());
  }
}
