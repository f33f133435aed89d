import java.lang.reflect.InvocationTargetException;
import java.lang.reflect.Method;
import java.util.ArrayList;
import java.util.List;
import java.util.Random;

// Long runs of calls, the same in every run of the test, with the answers of PlainOrchestra as those that are due.
public final class RandomRunsTest {
  private static final int RUNS = 400;
  private static final int CALLS = 512;
  private static final String[] CHANGES = {"addSection", "removeSection", "setNote", "setMasked", "transpose",
      "reverse", "raise", "setTempo", "setLimit", "conductWave", "conductBeats", "undo", "save", "restore"};
  private static final Check CHECK = new Check("RandomRunsTest");

  private final Random random;
  private final ScoreOrchestra program = new ScoreOrchestra();
  private final PlainOrchestra model = new PlainOrchestra();
  private final List<Method> methods = new ArrayList<>();
  private final String name;
  private int calls = 0;

  private RandomRunsTest(int run) {
    random = new Random(run);
    name = "run " + run + ", call ";
    for (Method method : ScoreOrchestra.class.getDeclaredMethods()) {
      if (java.lang.reflect.Modifier.isPublic(method.getModifiers())) {
        methods.add(method);
      }
    }
    methods.sort((first, second) -> first.getName().compareTo(second.getName()));
  }

  public static void main(String[] args) {
    for (int run = 0; run < RUNS; run++) {
      new RandomRunsTest(run).compare();
    }
    CHECK.end();
  }

  private void compare() {
    for (int i = random.nextInt(4); i > 0; i--) {
      call(method("addSection"));
    }
    while (calls < CALLS) {
      int choice = random.nextInt(100);
      if (choice < 6) {
        runScript();
      } else if (choice < 50) {
        call(method(CHANGES[random.nextInt(CHANGES.length)]));
      } else {
        call(methods.get(random.nextInt(methods.size())));
      }
    }
  }

  private Method method(String wanted) {
    for (Method method : methods) {
      if (method.getName().equals(wanted)) {
        return method;
      }
    }
    throw new AssertionError(wanted);
  }

  private void call(Method method) {
    int[] numbers = new int[method.getParameterCount()];
    for (int i = 0; i < numbers.length; i++) {
      numbers[i] = argument(method, i);
    }
    call(method, numbers);
  }

  private void call(Method method, int... numbers) {
    calls++;
    if (calls > CALLS) {
      return;
    }
    Object[] arguments = new Object[numbers.length];
    for (int i = 0; i < numbers.length; i++) {
      Class<?> type = method.getParameterTypes()[i];
      arguments[i] = type == char.class ? (Object) (char) numbers[i]
          : type == boolean.class ? (Object) (numbers[i] != 0) : (Object) numbers[i];
    }
    Object due = Check.outcome(() -> model.call(method.getName(), numbers));
    CHECK.due(name + calls + ": " + method.getName() + java.util.Arrays.toString(numbers), due,
        () -> invoke(method, arguments));
  }

  private Object invoke(Method method, Object[] arguments) {
    try {
      return method.invoke(program, arguments);
    } catch (InvocationTargetException e) {
      return e.getCause().getClass();
    } catch (IllegalAccessException e) {
      throw new AssertionError(e);
    }
  }

  private int argument(Method method, int index) {
    Class<?> type = method.getParameterTypes()[index];
    if (type == char.class) {
      return random.nextInt(15) == 0 || method.getName().equals("type") ? random.nextInt(140)
          : "swd".charAt(random.nextInt(3));
    }
    if (type == boolean.class) {
      return random.nextInt(2);
    }
    if (random.nextInt(150) == 0) {
      return random.nextInt();
    }
    switch (method.getName()) {
      case "addSection":
        return random.nextInt(20) == 0 ? random.nextInt(9) - 1 : 1 + random.nextInt(6);
      case "setLimit":
        return random.nextInt(8) == 0 ? random.nextInt(104) - 2 : 5 + random.nextInt(40);
      case "setTempo":
        return random.nextInt(8) - 1;
      case "conductBeats":
      case "totalWithin":
      case "outputAt":
        return random.nextInt(3) == 0 ? random.nextInt(70) - 3 : 1 + random.nextInt(8);
      case "raise":
        return index == 0 ? section() : random.nextInt(15) == 0 ? random.nextInt(23) - 11 : random.nextInt(5) - 2;
      case "setNote":
      case "noteVolume":
      case "soundCount":
        return index == 0 ? section() : index == 3 || method.getParameterCount() == 2 ? random.nextInt(12) - 1 : side();
      case "loggedTotal":
      case "sectionByVolume":
      case "noteBySounds":
        return random.nextInt(13) - 1;
      default:
        return index == 0 || method.getName().equals("areAlike") ? section() : side();
    }
  }

  private int section() {
    return random.nextInt(12) == 0 ? random.nextInt(9) - 2
        : random.nextInt(Math.max(1, (Integer) model.call("sectionCount")));
  }

  private int side() {
    return random.nextInt(12) == 0 ? random.nextInt(10) - 2 : random.nextInt(3);
  }

  private void runScript() {
    StringBuilder script = new StringBuilder();
    for (int i = random.nextInt(5); i >= 0; i--) {
      script.append(command()).append(i > 0 ? ";" : "");
    }
    if (random.nextInt(3) == 0) {
      spoil(script);
    }
    for (int i = 0; i < script.length(); i++) {
      call(method("type"), script.charAt(i));
    }
    call(method("runScript"));
    call(method("errorPosition"));
    call(method("failedCommand"));
  }

  private void spoil(StringBuilder script) {
    int at = random.nextInt(script.length());
    switch (random.nextInt(4)) {
      case 0:
        script.setLength(at);
        break;
      case 1:
        script.deleteCharAt(at);
        break;
      case 2:
        script.insert(at, sign());
        break;
      default:
        script.setCharAt(at, sign());
    }
  }

  private char sign() {
    String usual = "01 29;+-=swdabelmnoptrfi";
    return random.nextInt(6) == 0 ? (char) (32 + random.nextInt(95)) : usual.charAt(random.nextInt(usual.length()));
  }

  private String command() {
    int section = Math.floorMod(section(), 10);
    int place = Math.floorMod(side(), 10);
    int other = Math.floorMod(side(), 10);
    char mark = random.nextBoolean() ? '+' : '-';
    switch (random.nextInt(12)) {
      case 0:
        return "add " + "swd".charAt(random.nextInt(3)) + (1 + random.nextInt(6)) + (1 + random.nextInt(6));
      case 1:
        return "drop " + section;
      case 2:
        return "mask " + section + " " + place + mark;
      case 3:
        return "flip " + section;
      case 4:
        return "turn " + section;
      case 5:
        return "raise " + section + " " + mark + random.nextInt(3);
      case 6:
        return "tempo " + (1 + random.nextInt(6));
      case 7:
        return "limit " + random.nextInt(60);
      case 8:
        return "wave";
      case 9:
        return random.nextBoolean() ? "beat" : "beat " + random.nextInt(44);
      default:
        return "note " + section + " " + place + other + "=" + random.nextInt(10);
    }
  }
}
