// What an orchestra answers to the questions that change nothing, as one text.
final class Views {
  private Views() {
  }

  // The state that undo and the snapshot cover, in 45 calls and 12 for each section, and one for each of its notes.
  static String of(ScoreOrchestra x) {
    StringBuilder view = new StringBuilder();
    view.append(x.sectionCount()).append(" sections, ").append(inShort(x));
    for (int i = 0; i < x.sectionCount(); i++) {
      view.append("; ").append(section(x, i));
    }
    for (char kind : new char[] {'s', 'w', 'd'}) {
      view.append("; sounds of ").append(kind);
      for (int note = 1; note <= 9; note++) {
        view.append(' ').append(x.soundCount(kind, note));
      }
    }
    view.append("; log");
    for (int i = 0; i < 10; i++) {
      int recency = i;
      view.append(' ').append(Check.outcome(() -> x.loggedTotal(recency)));
    }
    return view.append("; greatest ").append(Check.outcome(x::greatestTotal)).toString();
  }

  static String inShort(ScoreOrchestra x) {
    return "tempo " + x.tempo() + ", limit " + x.limit() + ", beats " + x.beatCount() + ", breaks " + x.breakCount()
        + ", total " + x.totalVolume() + ", next " + x.nextTotal();
  }

  private static String section(ScoreOrchestra x, int section) {
    StringBuilder view = new StringBuilder();
    int rows = x.rows(section);
    int columns = x.columns(section);
    view.append(x.kind(section)).append(':');
    for (int row = 0; row < rows; row++) {
      for (int column = 0; column < columns; column++) {
        view.append(x.note(section, row, column));
      }
      view.append('/');
    }
    for (int column = 0; column <= 5; column++) {
      view.append(x.isMasked(section, column) ? 'x' : '.');
    }
    return view.append(" fatigue ").append(x.fatigue(section)).append(", rest ").append(x.restingBeats(section))
        .append(", played ").append(x.playedVolume(section)).toString();
  }
}
