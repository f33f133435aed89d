import java.io.IOException;
import java.lang.reflect.Constructor;
import java.lang.reflect.Field;
import java.lang.reflect.Method;
import java.lang.reflect.Modifier;
import java.nio.file.Files;
import java.nio.file.Path;
import java.util.Set;
import java.util.TreeSet;

// The members that can be seen from outside are those that the document lists, with their exceptions, and no others.
public final class FaceTest {
  public static void main(String[] args) throws IOException {
    Check check = new Check("FaceTest");
    Set<String> due = documentedMembers();
    Set<String> visible = visibleMembers();
    check.due("number of documented members", 56, due::size);
    check.due("visible members", due, () -> visible);
    check.due("modifiers of the class", Modifier.PUBLIC | Modifier.FINAL, ScoreOrchestra.class::getModifiers);
    check.due("private methods with a public name", Set.of(), FaceTest::hiddenPublicNames);
    check.end();
  }

  private static Set<String> documentedMembers() throws IOException {
    Set<String> members = new TreeSet<>();
    for (String line : Files.readAllLines(Path.of("../shared/DOC.md"))) {
      if (line.startsWith("    public ") && line.endsWith(";")) {
        members.add(line.substring(4, line.length() - 1).replaceAll(" [a-z]\\w*(?=[,)])", ""));
      }
    }
    return members;
  }

  private static Set<String> visibleMembers() {
    Set<String> members = new TreeSet<>();
    for (Constructor<?> constructor : ScoreOrchestra.class.getDeclaredConstructors()) {
      members.add(plain(constructor.toGenericString()));
    }
    for (Method method : ScoreOrchestra.class.getDeclaredMethods()) {
      if (!Modifier.isPrivate(method.getModifiers())) {
        members.add(plain(method.toGenericString()));
      }
    }
    for (Field field : ScoreOrchestra.class.getDeclaredFields()) {
      if (!Modifier.isPrivate(field.getModifiers())) {
        members.add(plain(field.toGenericString()));
      }
    }
    return members;
  }

  private static String plain(String member) {
    return member.replace("java.lang.", "").replace("java.util.", "").replace("ScoreOrchestra.", "")
        .replace(",", ", ");
  }

  private static Set<String> hiddenPublicNames() {
    Set<String> names = new TreeSet<>();
    for (Method method : ScoreOrchestra.class.getMethods()) {
      names.add(method.getName());
    }
    Set<String> hidden = new TreeSet<>();
    addHidden(ScoreOrchestra.class, names, hidden);
    for (Class<?> inside : ScoreOrchestra.class.getDeclaredClasses()) {
      if (!inside.isEnum()) {
        addHidden(inside, names, hidden);
      }
    }
    return hidden;
  }

  private static void addHidden(Class<?> owner, Set<String> names, Set<String> hidden) {
    for (Method method : owner.getDeclaredMethods()) {
      if (!Modifier.isPublic(method.getModifiers()) && names.contains(method.getName())) {
        hidden.add(owner.getSimpleName() + "." + method.getName());
      }
    }
  }
}
