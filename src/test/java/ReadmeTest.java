import java.io.IOException;
import java.lang.reflect.Method;
import java.lang.reflect.Modifier;
import java.nio.file.FileVisitOption;
import java.nio.file.Files;
import java.nio.file.Path;
import java.util.ArrayList;
import java.util.Comparator;
import java.util.List;
import java.util.Set;
import java.util.TreeSet;
import java.util.regex.Matcher;
import java.util.regex.Pattern;
import java.util.stream.Stream;

// README.md says how to use the class and how to run its tests; what it says is done here as it is written there.
public final class ReadmeTest {
  private static final Check CHECK = new Check("ReadmeTest");
  private static final Path SOURCES = Path.of("src");

  private final String readme;
  private final Path folder;

  private ReadmeTest(String readme, Path folder) {
    this.readme = readme;
    this.folder = folder;
  }

  public static void main(String[] args) throws IOException, InterruptedException {
    Path made = Files.createTempDirectory("readme");
    try {
      new ReadmeTest(Files.readString(Path.of("README.md")), made.resolve("main")).look(made);
    } finally {
      delete(made);
    }
    CHECK.end();
  }

  // The commands run in a copy of the project, beside the documents, so that what they build does not stay.
  private void look(Path made) throws IOException, InterruptedException {
    copy(SOURCES, folder.resolve(SOURCES));
    copy(Path.of("../shared"), made.resolve("shared"));
    theProgramPrintsWhatIsWritten();
    theTestsAreRunAsIsWritten();
    namesAreWritten();
  }

  private void theProgramPrintsWhatIsWritten() throws IOException, InterruptedException {
    Files.writeString(folder.resolve("Concert.java"), block("java", 0));
    String printed = printed(block("sh", 0), 0);
    CHECK.due("the program", block("text", 0), () -> printed);
  }

  private void theTestsAreRunAsIsWritten() throws IOException, InterruptedException {
    String own = printed(block("sh", 1), 0);
    CHECK.due("one of the project's tests", true, () -> own.matches("ScriptsTest: \\d+ answers, 0 not due\n"));
    printed(block("sh", 2), 0);
    spoilTempo();
    String failed = printed(block("sh", 1), 1);
    CHECK.due("a test that fails names the promise", true,
        () -> failed.startsWith("ScriptsTest: 15: tempo answered 0, due is 5\n"));
  }

  private void spoilTempo() throws IOException {
    Path program = folder.resolve("src/main/java/ScoreOrchestra.java");
    Files.writeString(program, Files.readString(program).replace("return now.tempo;", "return 0;"));
  }

  private void namesAreWritten() throws IOException {
    Set<String> calls = new TreeSet<>();
    for (Method method : ScoreOrchestra.class.getDeclaredMethods()) {
      if (Modifier.isPublic(method.getModifiers()) && !readme.contains("`" + method.getName() + "`")) {
        calls.add(method.getName());
      }
    }
    CHECK.due("calls that are not named", Set.of(), () -> calls);
    Set<String> named = new TreeSet<>();
    for (Matcher name = Pattern.compile("`(\\w+Test)`").matcher(readme); name.find();) {
      named.add(name.group(1));
    }
    Set<String> tests = tests();
    CHECK.due("named tests", tests, () -> named);
  }

  private static Set<String> tests() throws IOException {
    Set<String> tests = new TreeSet<>();
    for (Path file : paths(SOURCES.resolve("test/java"))) {
      String name = file.getFileName().toString();
      if (name.endsWith("Test.java")) {
        tests.add(name.replace(".java", ""));
      }
    }
    return tests;
  }

  // What stands in the README between the lines that begin and end a block of this language.
  private String block(String language, int index) {
    Matcher block = Pattern.compile("^```" + language + "\n(.*?)^```$", Pattern.MULTILINE | Pattern.DOTALL)
        .matcher(readme);
    for (int i = 0; i <= index; i++) {
      if (!block.find()) {
        throw new AssertionError("README.md has no block " + index + " of " + language);
      }
    }
    return block.group(1);
  }

  private String printed(String commands, int exitCode) throws IOException, InterruptedException {
    Process shell = new ProcessBuilder("sh", "-e", "-c", commands).directory(folder.toFile())
        .redirectError(ProcessBuilder.Redirect.INHERIT).start();
    String printed = new String(shell.getInputStream().readAllBytes(), java.nio.charset.StandardCharsets.UTF_8);
    int ended = shell.waitFor();
    CHECK.due("exit code of\n" + commands + printed, exitCode, () -> ended);
    return printed;
  }

  // Links are followed, as the documents may be one.
  private static List<Path> paths(Path root) throws IOException {
    try (Stream<Path> paths = Files.walk(root, FileVisitOption.FOLLOW_LINKS)) {
      return new ArrayList<>(paths.toList());
    }
  }

  private static void copy(Path from, Path to) throws IOException {
    for (Path path : paths(from)) {
      Path copied = to.resolve(from.relativize(path));
      if (Files.isDirectory(path)) {
        Files.createDirectories(copied);
      } else {
        Files.write(copied, Files.readAllBytes(path));
      }
    }
  }

  private static void delete(Path root) throws IOException {
    List<Path> paths = paths(root);
    paths.sort(Comparator.reverseOrder());
    for (Path path : paths) {
      Files.delete(path);
    }
  }
}
