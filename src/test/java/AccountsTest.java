import java.util.NoSuchElementException;

// Promises 37 to 44 and 46: totals, sounds, the log and the rankings.
public final class AccountsTest {
  private static final Check CHECK = new Check("AccountsTest");
  private static final int[] NO_RANKS = {-1, Integer.MIN_VALUE, Integer.MAX_VALUE};

  public static void main(String[] args) {
    totalsAreAdded();
    soundsAreCounted();
    totalsAreLogged();
    sectionsAreRanked();
    notesAreRanked();
    theStateIsConsistent();
    CHECK.end();
  }

  private static void totalsAreAdded() {
    ScoreOrchestra x = Orchestras.with("s:19", "w:52");
    CHECK.due("44: no beat", ArithmeticException.class, x::meanTotal);
    CHECK.due("40: no beat", NoSuchElementException.class, x::greatestTotal);
    x.conductBeats(3);
    CHECK.due("37: three beats", 11L + 13L + 11L, x::totalVolume);
    CHECK.due("38: three beats", 11L + 13L + 11L, x::totalVolumeBySounds);
    CHECK.due("40: the greatest is not the latest", 13, x::greatestTotal);
    CHECK.due("44: the mean", 35.0 / 3.0, x::meanTotal);
    x.removeSection(1);
    x.setNote(0, 0, 1, 2);
    CHECK.due("37: what was played stays", 35L, x::totalVolume);
    CHECK.due("38: what was played stays", 35L, x::totalVolumeBySounds);
    x.removeSection(0);
    x.conductBeats(1);
    CHECK.due("44: a beat of 0", 35.0 / 4.0, x::meanTotal);
    CHECK.due("40: the greatest stays", 13, x::greatestTotal);
    ScoreOrchestra silent = new ScoreOrchestra();
    silent.conductWave();
    CHECK.due("40: beats of 0", 0, silent::greatestTotal);
    CHECK.due("44: beats of 0", 0.0, silent::meanTotal);
  }

  private static void soundsAreCounted() {
    ScoreOrchestra x = Orchestras.with("d:44/40/07", "w:44", "d:4");
    x.setMasked(1, 1, true);
    x.conductBeats(3);
    CHECK.due("39: twice in a column, and in two sections", 2 + 1 + 2 + 3, () -> x.soundCount('d', 4));
    CHECK.due("39: another note", 1, () -> x.soundCount('d', 7));
    CHECK.due("39: another kind, masked once", 2, () -> x.soundCount('w', 4));
    CHECK.due("39: no sound", 0, () -> x.soundCount('s', 4));
    CHECK.due("38: of all kinds", 8L + 5L + 16L, x::totalVolumeBySounds);
    x.removeSection(0);
    CHECK.due("39: those of a removed section stay", 8, () -> x.soundCount('d', 4));
    for (int note : new int[] {0, -1, 10, Integer.MIN_VALUE, Integer.MAX_VALUE}) {
      CHECK.due("39: note " + note, IllegalArgumentException.class, () -> x.soundCount('s', note));
    }
    CHECK.due("39: kind a", IllegalArgumentException.class, () -> x.soundCount('a', 1));
  }

  private static void totalsAreLogged() {
    ScoreOrchestra x = Orchestras.with("s:12345");
    CHECK.due("41: no beat", NoSuchElementException.class, () -> x.loggedTotal(0));
    x.conductBeats(3);
    CHECK.due("41: the latest of 3", 3, () -> x.loggedTotal(0));
    CHECK.due("41: the first of 3", 1, () -> x.loggedTotal(2));
    CHECK.due("41: before the first", NoSuchElementException.class, () -> x.loggedTotal(3));
    x.setNote(0, 0, 3, 9);
    x.conductBeats(10);
    int[] due = {3, 2, 1, 5, 9, 3, 2, 1, 5, 9};
    for (int i = 0; i < due.length; i++) {
      int recency = i;
      CHECK.due("41: recency " + recency + " of 13", due[recency], () -> x.loggedTotal(recency));
    }
    CHECK.due("41: the eleventh", NoSuchElementException.class, () -> x.loggedTotal(10));
    for (int recency : NO_RANKS) {
      CHECK.due("41: recency " + recency, NoSuchElementException.class, () -> x.loggedTotal(recency));
    }
  }

  private static void sectionsAreRanked() {
    ScoreOrchestra x = Orchestras.with("s:3", "s:9", "s:3", "d:1", "s:0");
    x.setLimit(20);
    CHECK.due("42: nothing played, by index", 2, () -> x.sectionByVolume(2));
    x.conductBeats(1);
    int[] due = {1, 3, 0, 2, 4};
    ranksAre(x, due);
    CHECK.due("42: no rank 5", NoSuchElementException.class, () -> x.sectionByVolume(5));
    for (int rank : NO_RANKS) {
      CHECK.due("42: rank " + rank, NoSuchElementException.class, () -> x.sectionByVolume(rank));
    }
    CHECK.due("42: without sections", NoSuchElementException.class, () -> new ScoreOrchestra().sectionByVolume(0));
    ScoreOrchestra tired = Orchestras.with("s:5", "w:3", "s:6");
    tired.setLimit(16);
    tired.setNote(0, 0, 0, 6);
    tired.conductBeats(1);
    ranksAre(tired, 1, 2, 0);
  }

  private static void ranksAre(ScoreOrchestra x, int... due) {
    for (int i = 0; i < due.length; i++) {
      int rank = i;
      CHECK.due("42: rank " + rank, due[rank], () -> x.sectionByVolume(rank));
    }
  }

  private static void notesAreRanked() {
    ScoreOrchestra x = Orchestras.with("s:3/5/3", "w:5/8/0", "d:3/1/8");
    notesRank(x, 9, 8, 7, 6, 5, 4, 3, 2, 1);
    x.conductBeats(1);
    notesRank(x, 3, 8, 5, 1, 9, 7, 6, 4, 2);
    CHECK.due("43: no rank 9", NoSuchElementException.class, () -> x.noteBySounds(9));
    for (int rank : NO_RANKS) {
      CHECK.due("43: rank " + rank, NoSuchElementException.class, () -> x.noteBySounds(rank));
    }
  }

  private static void notesRank(ScoreOrchestra x, int... due) {
    for (int i = 0; i < due.length; i++) {
      int rank = i;
      CHECK.due("43: rank " + rank, due[rank], () -> x.noteBySounds(rank));
    }
  }

  // No run of calls can make the accounts differ, so the answer is true all along.
  private static void theStateIsConsistent() {
    ScoreOrchestra x = Orchestras.with("s:123/456", "w:9876", "d:12345/54321", "w:1/2/3/4/5/6");
    CHECK.due("46: before any beat", true, x::isConsistent);
    x.setLimit(25);
    x.conductBeats(40);
    CHECK.due("46: after forty beats", true, x::isConsistent);
    x.transpose(0);
    x.reverse(1);
    x.setMasked(2, 0, true);
    x.conductWave();
    CHECK.due("46: after changes", true, x::isConsistent);
    x.removeSection(2);
    CHECK.due("46: after a removal", true, x::isConsistent);
    x.undo();
    x.undo();
    CHECK.due("46: after undo", true, x::isConsistent);
    CHECK.due("46: the state is as it was", "s:14/25/36", () -> Orchestras.score(x, 0));
  }
}
