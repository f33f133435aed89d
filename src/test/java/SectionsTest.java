import java.util.NoSuchElementException;

// Promises 1 to 3, 14 and 17 to 19: a new object, and its sections.
public final class SectionsTest {
  private static final Check CHECK = new Check("SectionsTest");

  public static void main(String[] args) {
    aNewObjectIsEmpty();
    sectionsAreAdded();
    wrongSectionsAreNotAdded();
    sectionsAreRemoved();
    removedSectionsLeaveNothing();
    aSectionIsAskedFor();
    CHECK.end();
  }

  private static void aNewObjectIsEmpty() {
    ScoreOrchestra x = new ScoreOrchestra();
    CHECK.due("1: sectionCount of a new object", 0, x::sectionCount);
    CHECK.due("1: beatCount of a new object", 0, x::beatCount);
    CHECK.due("1: tempo of a new object", 2, x::tempo);
    CHECK.due("1: limit of a new object", 30, x::limit);
    CHECK.due("1: breakCount of a new object", 0, x::breakCount);
    CHECK.due("1: totalVolume of a new object", 0L, x::totalVolume);
    CHECK.due("1: nextTotal of a new object", 0, x::nextTotal);
    CHECK.due("1: period of a new object", 1, x::period);
    CHECK.due("1: isConsistent of a new object", true, x::isConsistent);
    CHECK.due("1: soundCount of a new object", 0, () -> x.soundCount('d', 9));
    CHECK.due("1: greatestTotal of a new object", NoSuchElementException.class, x::greatestTotal);
    CHECK.due("1: undo of a new object", IllegalStateException.class, x::undo);
    CHECK.due("1: restore of a new object", IllegalStateException.class, x::restore);
    CHECK.due("1: outputAt of a new object", IndexOutOfBoundsException.class, () -> x.outputAt(0));
    CHECK.due("1: type on a new object", 1, () -> x.type('w'));
  }

  private static void sectionsAreAdded() {
    ScoreOrchestra x = new ScoreOrchestra();
    CHECK.due("2: the first section", 0, () -> x.addSection('s', 1, 6));
    CHECK.due("2: the second section", 1, () -> x.addSection('w', 6, 1));
    CHECK.due("2: the third section", 2, () -> x.addSection('d', 6, 6));
    CHECK.due("14: three sections", 3, x::sectionCount);
    CHECK.due("2: notes 0", "w:0/0/0/0/0/0", () -> Orchestras.score(x, 1));
    CHECK.due("2: no mask, fatigue 0, no rest", "......f0", () -> Orchestras.mask(x, 0));
    CHECK.due("2: not resting", 0, () -> x.restingBeats(0));
    CHECK.due("2: played nothing", 0, () -> x.playedVolume(2));
  }

  private static void wrongSectionsAreNotAdded() {
    ScoreOrchestra x = new ScoreOrchestra();
    for (char kind : new char[] {'S', 't', 'r', 'x', 'c', 'e', 'v', 0, 65535, 's' + 256}) {
      CHECK.due("2: kind " + (int) kind, IllegalArgumentException.class, () -> x.addSection(kind, 1, 1));
    }
    for (int side : new int[] {0, 7, -1, Integer.MIN_VALUE, Integer.MAX_VALUE}) {
      CHECK.due("2: rows " + side, IllegalArgumentException.class, () -> x.addSection('s', side, 1));
      CHECK.due("2: columns " + side, IllegalArgumentException.class, () -> x.addSection('s', 1, side));
    }
    CHECK.due("2: nothing was added", 0, x::sectionCount);
    for (int i = 0; i < 5; i++) {
      int index = i;
      CHECK.due("2: section " + i, index, () -> x.addSection('d', 2, 2));
    }
    CHECK.due("2: a sixth section", IllegalStateException.class, () -> x.addSection('d', 2, 2));
    CHECK.due("2: a wrong sixth section", IllegalArgumentException.class, () -> x.addSection('d', 2, 7));
    CHECK.due("14: five sections", 5, x::sectionCount);
  }

  private static void sectionsAreRemoved() {
    ScoreOrchestra x = Orchestras.with("s:12", "w:3/4", "d:567");
    x.setMasked(2, 1, true);
    x.conductBeats(1);
    CHECK.due("3: no section 3", IndexOutOfBoundsException.class, () -> x.removeSection(3));
    CHECK.due("3: no section -1", IndexOutOfBoundsException.class, () -> x.removeSection(-1));
    CHECK.due("3: two sections are left", 2, () -> x.removeSection(1));
    CHECK.due("3: the earlier one keeps its index", "s:12", () -> Orchestras.score(x, 0));
    CHECK.due("3: the later one moves down", "d:567", () -> Orchestras.score(x, 1));
    CHECK.due("3: with its mask", ".x.f0", () -> Orchestras.mask(x, 1));
    CHECK.due("3: with its played volume", 5, () -> x.playedVolume(1));
    CHECK.due("3: its old index is free", IndexOutOfBoundsException.class, () -> x.kind(2));
    CHECK.due("3: sounds of the removed one stay", 1, () -> x.soundCount('w', 4));
    CHECK.due("3: its volume stays in the total", 20L, x::totalVolume);
    CHECK.due("2: a section is added behind", 2, () -> x.addSection('w', 1, 2));
    CHECK.due("2: it is a new one", "w:00", () -> Orchestras.score(x, 2));
    CHECK.due("2: it has not played", 0, () -> x.playedVolume(2));
    x.removeSection(2);
    x.removeSection(0);
    CHECK.due("3: none is left", 0, () -> x.removeSection(0));
    CHECK.due("3: none can be removed", IndexOutOfBoundsException.class, () -> x.removeSection(0));
  }

  private static void removedSectionsLeaveNothing() {
    ScoreOrchestra x = Orchestras.with("s:1", "s:2", "w:3", "s:9", "s:5");
    x.setLimit(18);
    x.conductBeats(3);
    x.setMasked(3, 0, true);
    CHECK.due("23: it rests", "xf0r2", () -> Orchestras.mask(x, 3));
    x.conductBeats(1);
    x.removeSection(3);
    CHECK.due("2: added in its place", 4, () -> x.addSection('w', 2, 2));
    CHECK.due("2: no rest and no mask of the removed one", "..f0", () -> Orchestras.mask(x, 4));
    CHECK.due("2: no note of the removed one", "w:00/00", () -> Orchestras.score(x, 4));
    CHECK.due("36: no beat of the removed one", 0, () -> x.playedVolume(4));
    x.setNote(4, 1, 1, 9);
    CHECK.due("3: the one before stays alone", "s:5", () -> Orchestras.score(x, 3));
    ScoreOrchestra tired = Orchestras.with("s:1", "s:1", "s:1", "s:1", "s:9");
    tired.setLimit(12);
    tired.conductBeats(1);
    CHECK.due("22: it is tired", 1, () -> tired.fatigue(4));
    tired.removeSection(4);
    tired.addSection('s', 1, 1);
    CHECK.due("2: no fatigue of the removed one", 0, () -> tired.fatigue(4));
    tired.removeSection(0);
    tired.removeSection(0);
    tired.addSection('d', 1, 1);
    tired.addSection('w', 1, 1);
    tired.setNote(4, 0, 0, 6);
    CHECK.due("3: none of the others has its note", "d:0", () -> Orchestras.score(tired, 3));
    CHECK.due("30: the sum of all five", 1 + 1 + 12, tired::nextTotal);
  }

  private static void aSectionIsAskedFor() {
    ScoreOrchestra x = Orchestras.with("w:123/456", "d:9");
    CHECK.due("17: kind of section 0", 'w', () -> x.kind(0));
    CHECK.due("17: kind of section 1", 'd', () -> x.kind(1));
    CHECK.due("18: rows of section 0", 2, () -> x.rows(0));
    CHECK.due("18: rows of section 1", 1, () -> x.rows(1));
    CHECK.due("19: columns of section 0", 3, () -> x.columns(0));
    CHECK.due("19: columns of section 1", 1, () -> x.columns(1));
    for (int section : new int[] {2, -1, 5, Integer.MIN_VALUE, Integer.MAX_VALUE}) {
      CHECK.due("17: kind of section " + section, IndexOutOfBoundsException.class, () -> x.kind(section));
      CHECK.due("18: rows of section " + section, IndexOutOfBoundsException.class, () -> x.rows(section));
      CHECK.due("19: columns of section " + section, IndexOutOfBoundsException.class, () -> x.columns(section));
    }
  }
}
