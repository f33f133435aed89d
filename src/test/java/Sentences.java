import java.io.IOException;
import java.nio.file.Files;
import java.nio.file.Path;
import java.util.LinkedHashMap;
import java.util.LinkedHashSet;
import java.util.Map;
import java.util.Set;

// The sentences of ../shared/DOC.md, and which of them a test has told: a sentence that is not told, and one that is
// told in other words than the document's, is a failure.
final class Sentences {
  // A call that asks a section for something.
  interface SectionCall {
    Object answer(ScoreOrchestra x, int section);
  }

  interface SectionColumnCall {
    Object answer(ScoreOrchestra x, int section, int column);
  }

  // A call that asks for a section, a row and a column.
  interface PlaceCall {
    Object answer(ScoreOrchestra x, int... at);
  }

  private static final String TERMS = "Terms";
  private static final int[] FAR = {Integer.MIN_VALUE, Integer.MAX_VALUE, -1000, 1000, 256, 65536};

  private final Check check;
  private final Map<String, Set<String>> document = new LinkedHashMap<>();
  private final Set<String> told = new LinkedHashSet<>();
  private String current = "";

  Sentences(String test) throws IOException {
    check = new Check(test);
    String heading = "";
    for (String paragraph : Files.readString(Path.of("../shared/DOC.md")).split("\n\n")) {
      if (paragraph.startsWith("## ")) {
        heading = paragraph.substring(3).replaceAll(":.*", "");
        document.put(heading, new LinkedHashSet<>());
      } else if (document.containsKey(heading)) {
        addSentences(document.get(heading), paragraph.replace("`", ""));
      }
    }
  }

  // The line of an argument keeps its dash.
  private static void addSentences(Set<String> sentences, String paragraph) {
    for (String line : paragraph.split("\n(?=- )")) {
      for (String sentence : line.strip().replaceAll("\\s+", " ").split("(?<=\\.) (?=[A-Z])")) {
        sentences.add(withoutSignature(sentence));
      }
    }
  }

  private static String withoutSignature(String sentence) {
    return sentence.replaceFirst("^(\\w+ )?\\w+\\([^)]*\\)( throws [\\w, ]+)?: ", "");
  }

  // The answers that follow are due by this sentence of the Terms.
  void term(String sentence) {
    tell(TERMS, sentence);
  }

  // The answers that follow are due by this sentence of a promise.
  void promise(int number, String sentence) {
    tell("Promise " + number, sentence);
  }

  private void tell(String heading, String sentence) {
    current = name(heading, sentence);
    check.due(current + " stands in the document", true,
        () -> document.containsKey(heading) && document.get(heading).contains(sentence));
  }

  void due(String what, Object due, Check.Call call) {
    told.add(current);
    check.due(current + ": " + what, due, call);
  }

  // Whether the call is made without an exception, whatever it answers.
  void stands(String what, Check.Call call) {
    due(what + " stands", true, () -> !(Check.outcome(call) instanceof Class));
  }

  // There are two sections, then one, then none; each call has an object of its own, as it may change it.
  void noSuchSection(int promise, String method, SectionCall call) {
    promise(promise, "Throws IndexOutOfBoundsException if there is no such section");
    Class<?> thrown = IndexOutOfBoundsException.class;
    for (int section : new int[] {-1, 2, 5, Integer.MIN_VALUE, Integer.MAX_VALUE}) {
      due(method + " of " + section + " of two", thrown, () -> call.answer(Orchestras.with("s:1", "w:2"), section));
    }
    stands(method + " of 0 of two", () -> call.answer(Orchestras.with("s:1", "w:2"), 0));
    stands(method + " of 1 of two", () -> call.answer(Orchestras.with("s:1", "w:2"), 1));
    ScoreOrchestra x = Orchestras.with("s:1", "w:2");
    x.removeSection(0);
    due(method + " of 1 after one of two was removed", thrown, () -> call.answer(x, 1));
    due(method + " of 0 without sections", thrown, () -> call.answer(new ScoreOrchestra(), 0));
    due(method + " of -1 without sections", thrown, () -> call.answer(new ScoreOrchestra(), -1));
    ScoreOrchestra full = Orchestras.with("s:1", "w:2", "d:3", "s:4", "w:5");
    due(method + " of 5 of five", thrown, () -> call.answer(full, 5));
    stands(method + " of 4 of five", () -> call.answer(full, 4));
  }

  // There are a score of two rows and three columns, and one of three rows and two columns.
  void noSuchPlace(String method, PlaceCall call) {
    Class<?> thrown = IndexOutOfBoundsException.class;
    ScoreOrchestra x = Orchestras.with("s:123/456", "w:12/34/56");
    int[][] wrong = {{-1, 0, 0}, {2, 0, 0}, {5, 0, 0}, {0, -1, 0}, {0, 2, 0}, {0, 6, 0}, {0, 0, -1}, {0, 0, 3},
        {0, 0, 6}, {0, 1, -3}, {0, -1, 3}, {1, 3, 0}, {1, 0, 2}, {1, -1, 1}, {1, 2, -1}};
    for (int[] at : wrong) {
      due(method + place(at), thrown, () -> call.answer(x, at));
    }
    for (int far : FAR) {
      due(method + " of section " + far, thrown, () -> call.answer(x, far, 0, 0));
      due(method + " of row " + far, thrown, () -> call.answer(x, 0, far, 0));
      due(method + " of column " + far, thrown, () -> call.answer(x, 0, 0, far));
    }
    for (int[] at : new int[][] {{0, 0, 0}, {0, 1, 2}, {1, 2, 1}, {1, 0, 1}, {1, 2, 0}}) {
      stands(method + place(at), () -> call.answer(x, at));
    }
    x.transpose(0);
    stands(method + " in a row that transposing made", () -> call.answer(x, 0, 2, 1));
    due(method + " in a column that transposing took away", thrown, () -> call.answer(x, 0, 1, 2));
  }

  private static String place(int... at) {
    return " of section " + at[0] + " at " + at[1] + ", " + at[2];
  }

  // There are a score of three columns and one of two.
  void noSuchColumn(String method, SectionColumnCall call) {
    Class<?> thrown = IndexOutOfBoundsException.class;
    ScoreOrchestra x = Orchestras.with("s:123/456", "w:12/34/56");
    for (int[] at : new int[][] {{-1, 0}, {2, 0}, {5, 0}, {0, -1}, {0, 3}, {0, 5}, {0, 6}, {1, 2}, {1, -1}}) {
      due(method + " of section " + at[0] + ", column " + at[1], thrown, () -> call.answer(x, at[0], at[1]));
    }
    for (int far : FAR) {
      due(method + " of section " + far, thrown, () -> call.answer(x, far, 0));
      due(method + " of column " + far, thrown, () -> call.answer(x, 0, far));
    }
    for (int[] at : new int[][] {{0, 0}, {0, 2}, {1, 0}, {1, 1}}) {
      stands(method + " of section " + at[0] + ", column " + at[1], () -> call.answer(x, at[0], at[1]));
    }
    x.transpose(1);
    stands(method + " of a column that transposing made", () -> call.answer(x, 1, 2));
    due(method + " without sections", thrown, () -> call.answer(new ScoreOrchestra(), 0, 0));
  }

  void end() {
    check.due("sentences of the document without a test", Set.of(), this::untold);
    check.end();
  }

  private Set<String> untold() {
    Set<String> untold = new LinkedHashSet<>();
    for (Map.Entry<String, Set<String>> part : document.entrySet()) {
      for (String sentence : part.getValue()) {
        if (isAsked(part.getKey(), sentence) && !told.contains(name(part.getKey(), sentence))) {
          untold.add("\n  " + name(part.getKey(), sentence));
        }
      }
    }
    return untold;
  }

  private static String name(String heading, String sentence) {
    return heading + ", \"" + sentence + "\"";
  }

  // Not asked are labels, as in "One beat.", what an argument is called, the introduction of the Terms, and the short
  // lines that say once more what is returned.
  private static boolean isAsked(String heading, String sentence) {
    if (heading.equals(TERMS)) {
      return !sentence.matches("[A-Z]\\w+( \\w+)?\\.") && !isIntroduction(sentence);
    }
    return heading.startsWith("Promise ") && !sentence.startsWith("- ")
        && !sentence.matches("Returns the (error )?\\w+\\.|Returns the number of (beats|rows|columns|times)\\.|"
            + "Returns true if (it is|it would|the scores are the same)\\.");
  }

  private static boolean isIntroduction(String sentence) {
    return sentence.matches(
        "(A score is a matrix|A conductor beats|The class also|It is not thread-safe|All integer).*");
  }
}
