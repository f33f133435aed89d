// Makes orchestras for the tests, and reads and writes their texts.
final class Orchestras {
  private Orchestras() {
  }

  // An orchestra with a section for each score, written as renderScore writes it.
  static ScoreOrchestra with(String... scores) {
    ScoreOrchestra x = new ScoreOrchestra();
    for (String score : scores) {
      add(x, score);
    }
    return x;
  }

  static void add(ScoreOrchestra x, String score) {
    String[] rows = score.substring(2).split("/");
    int section = x.addSection(score.charAt(0), rows.length, rows[0].length());
    for (int row = 0; row < rows.length; row++) {
      for (int column = 0; column < rows[row].length(); column++) {
        x.setNote(section, row, column, rows[row].charAt(column) - '0');
      }
    }
  }

  static String score(ScoreOrchestra x, int section) {
    return output(x, x.renderScore(section));
  }

  static String mask(ScoreOrchestra x, int section) {
    return output(x, x.renderMask(section));
  }

  static String output(ScoreOrchestra x, int length) {
    StringBuilder text = new StringBuilder();
    for (int i = 0; i < length; i++) {
      text.append(x.outputAt(i));
    }
    return text.toString();
  }

  static int type(ScoreOrchestra x, String text) {
    int length = 0;
    for (char character : text.toCharArray()) {
      length = x.type(character);
    }
    return length;
  }

  static int run(ScoreOrchestra x, String script) {
    type(x, script);
    return x.runScript();
  }
}
