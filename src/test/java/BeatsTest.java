import java.util.NoSuchElementException;

// Promises 9 to 13, 15, 16, 22, 23, 35 and 36: waves and beats, tired and resting sections.
public final class BeatsTest {
  private static final Check CHECK = new Check("BeatsTest");

  public static void main(String[] args) {
    theTempoIsSet();
    theLimitIsSet();
    wavesAreConducted();
    beatsAreConducted();
    theLoudestSectionTires();
    theFirstOfEquallyLoudTires();
    aSilentSectionDoesNotTire();
    aRestEndsBesideAMask();
    aRemovedSectionLeavesItsFatigue();
    sectionsThatAreNotThere();
    CHECK.end();
  }

  private static void theTempoIsSet() {
    ScoreOrchestra x = new ScoreOrchestra();
    CHECK.due("9: the previous tempo", 2, () -> x.setTempo(5));
    CHECK.due("15: the tempo", 5, x::tempo);
    CHECK.due("9: the lowest tempo", 5, () -> x.setTempo(1));
    for (int tempo : new int[] {0, 6, -1, Integer.MIN_VALUE, Integer.MAX_VALUE}) {
      CHECK.due("9: tempo " + tempo, IllegalArgumentException.class, () -> x.setTempo(tempo));
    }
    CHECK.due("15: the tempo is kept", 1, x::tempo);
  }

  private static void theLimitIsSet() {
    ScoreOrchestra x = new ScoreOrchestra();
    CHECK.due("10: the previous limit", 30, () -> x.setLimit(99));
    CHECK.due("16: the limit", 99, x::limit);
    CHECK.due("10: the lowest limit", 99, () -> x.setLimit(1));
    for (int limit : new int[] {0, 100, -1, Integer.MIN_VALUE, Integer.MAX_VALUE}) {
      CHECK.due("10: limit " + limit, IllegalArgumentException.class, () -> x.setLimit(limit));
    }
    CHECK.due("16: the limit is kept", 1, x::limit);
  }

  private static void wavesAreConducted() {
    ScoreOrchestra x = Orchestras.with("s:123", "w:45");
    CHECK.due("11: beats 0 and 1", 1 + 8 + 2 + 10, x::conductWave);
    CHECK.due("13: two beats", 2, x::beatCount);
    x.setTempo(5);
    CHECK.due("11: beats 2 to 6", 3 + 8 + 1 + 10 + 2 + 8 + 3 + 10 + 1 + 8, x::conductWave);
    CHECK.due("13: seven beats", 7, x::beatCount);
    CHECK.due("36: of section 0", 1 + 2 + 3 + 1 + 2 + 3 + 1, () -> x.playedVolume(0));
    CHECK.due("36: of section 1", 4 * 8 + 3 * 10, () -> x.playedVolume(1));
    x.setTempo(1);
    CHECK.due("11: one beat", 2 + 10, x::conductWave);
    ScoreOrchestra empty = new ScoreOrchestra();
    CHECK.due("11: without sections", 0, empty::conductWave);
    CHECK.due("13: without sections", 2, empty::beatCount);
  }

  private static void beatsAreConducted() {
    ScoreOrchestra x = Orchestras.with("s:12");
    x.setTempo(5);
    CHECK.due("12: one beat", 1, () -> x.conductBeats(1));
    CHECK.due("12: forty beats", 60, () -> x.conductBeats(40));
    CHECK.due("13: forty-one beats", 41, x::beatCount);
    for (int beats : new int[] {0, 41, -1, Integer.MIN_VALUE, Integer.MAX_VALUE}) {
      CHECK.due("12: beats " + beats, IllegalArgumentException.class, () -> x.conductBeats(beats));
    }
    CHECK.due("13: still forty-one beats", 41, x::beatCount);
    CHECK.due("36: since it was added", 61, () -> x.playedVolume(0));
    x.addSection('s', 1, 1);
    CHECK.due("36: a section added later", 0, () -> x.playedVolume(1));
  }

  // The total 10 is not greater than the limit 10; the totals 12 are.
  private static void theLoudestSectionTires() {
    ScoreOrchestra x = Orchestras.with("s:34", "s:78");
    x.setLimit(10);
    CHECK.due("12: at the limit", 10, () -> x.conductBeats(1));
    CHECK.due("35: no break at the limit", 0, x::breakCount);
    CHECK.due("12: over the limit", 12, () -> x.conductBeats(1));
    CHECK.due("35: one break", 1, x::breakCount);
    CHECK.due("22: the loudest is tired", 1, () -> x.fatigue(1));
    CHECK.due("22: the other one is not", 0, () -> x.fatigue(0));
    x.conductBeats(2);
    CHECK.due("22: tired twice", 2, () -> x.fatigue(1));
    CHECK.due("23: not resting yet", 0, () -> x.restingBeats(1));
    x.conductBeats(2);
    CHECK.due("22: tired three times", 0, () -> x.fatigue(1));
    CHECK.due("23: resting", 2, () -> x.restingBeats(1));
    CHECK.due("12: the rest begins", 3, () -> x.conductBeats(1));
    CHECK.due("23: one beat of rest is left", 1, () -> x.restingBeats(1));
    CHECK.due("12: the rest ends", 4, () -> x.conductBeats(1));
    CHECK.due("23: no rest is left", 0, () -> x.restingBeats(1));
    CHECK.due("12: it plays again", 10, () -> x.conductBeats(1));
    CHECK.due("35: three breaks", 3, x::breakCount);
    CHECK.due("36: silent beats add nothing", 7 + 8 + 7 + 8 + 7 + 8 + 7, () -> x.playedVolume(1));
  }

  private static void theFirstOfEquallyLoudTires() {
    ScoreOrchestra x = Orchestras.with("s:1", "s:5", "d:7", "s:5");
    x.setLimit(15);
    x.conductBeats(1);
    CHECK.due("22: section 0", 0, () -> x.fatigue(0));
    CHECK.due("22: section 1, the first of the loudest", 1, () -> x.fatigue(1));
    CHECK.due("22: section 2", 0, () -> x.fatigue(2));
    CHECK.due("22: section 3", 0, () -> x.fatigue(3));
  }

  private static void aSilentSectionDoesNotTire() {
    ScoreOrchestra x = Orchestras.with("s:9", "s:1", "s:1");
    x.setMasked(0, 0, true);
    x.setLimit(1);
    CHECK.due("12: two soft sections", 2, () -> x.conductBeats(1));
    CHECK.due("22: the silent one", 0, () -> x.fatigue(0));
    CHECK.due("22: the first soft one", 1, () -> x.fatigue(1));
    CHECK.due("22: the second soft one", 0, () -> x.fatigue(2));
  }

  private static void aRestEndsBesideAMask() {
    ScoreOrchestra x = Orchestras.with("s:9");
    x.setLimit(8);
    x.conductBeats(3);
    x.setMasked(0, 0, true);
    CHECK.due("12: resting and masked", 0, () -> x.conductBeats(2));
    CHECK.due("23: the rest is over", 0, () -> x.restingBeats(0));
    CHECK.due("12: only masked", 0, () -> x.conductBeats(1));
    x.setMasked(0, 0, false);
    CHECK.due("12: it plays again", 9, () -> x.conductBeats(1));
    CHECK.due("39: a silent note does not sound", 4, () -> x.soundCount('s', 9));
  }

  private static void aRemovedSectionLeavesItsFatigue() {
    ScoreOrchestra x = Orchestras.with("s:9", "s:1");
    x.setLimit(8);
    x.conductBeats(2);
    x.removeSection(0);
    CHECK.due("22: the next section is not tired", 0, () -> x.fatigue(0));
    Orchestras.add(x, "s:9");
    CHECK.due("22: a new section is not tired", 0, () -> x.fatigue(1));
    CHECK.due("35: the breaks stay", 2, x::breakCount);
    CHECK.due("33: no break within 60 beats", NoSuchElementException.class,
        () -> Orchestras.with("s:9").beatsUntilBreak());
  }

  private static void sectionsThatAreNotThere() {
    ScoreOrchestra x = Orchestras.with("s:1");
    for (int section : new int[] {-1, 1, 5, Integer.MIN_VALUE, Integer.MAX_VALUE}) {
      CHECK.due("22: fatigue of " + section, IndexOutOfBoundsException.class, () -> x.fatigue(section));
      CHECK.due("23: restingBeats of " + section, IndexOutOfBoundsException.class, () -> x.restingBeats(section));
      CHECK.due("36: playedVolume of " + section, IndexOutOfBoundsException.class, () -> x.playedVolume(section));
    }
  }
}
