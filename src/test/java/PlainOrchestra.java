import java.util.ArrayList;
import java.util.HashMap;
import java.util.List;
import java.util.Map;
import java.util.NoSuchElementException;
import java.util.TreeSet;
import java.util.regex.Matcher;
import java.util.regex.Pattern;

// The document once more, told as plainly as the Java library allows, for RandomRunsTest to compare with.
final class PlainOrchestra {
  private static final String COMMAND = "(?:add [swd]\\d\\d|drop \\d|note \\d \\d\\d=\\d|mask \\d \\d[+-]"
      + "|(?:flip |turn )\\d|raise \\d [+-]\\d|tempo \\d|limit \\d\\d?|wave|beat(?: \\d\\d?)?)";
  private static final Pattern SCRIPT = Pattern.compile(COMMAND + "(?:;" + COMMAND + ")*");

  private static final class Part {
    char kind;
    List<List<Integer>> score = new ArrayList<>();
    TreeSet<Integer> mask = new TreeSet<>();
    int fatigue = 0;
    int resting = 0;
    int played = 0;

    Part copy() {
      Part copy = new Part();
      copy.kind = kind;
      for (List<Integer> row : score) {
        copy.score.add(new ArrayList<>(row));
      }
      copy.mask.addAll(mask);
      copy.fatigue = fatigue;
      copy.resting = resting;
      copy.played = played;
      return copy;
    }

    int columns() {
      return score.get(0).size();
    }

    int volume(int column) {
      int volume = 0;
      for (List<Integer> row : score) {
        volume += PlainOrchestra.volume(kind, row.get(column));
      }
      return volume;
    }
  }

  private static final class World {
    List<Part> parts = new ArrayList<>();
    int tempo = 2;
    int limit = 30;
    int breaks = 0;
    List<Integer> totals = new ArrayList<>();
    Map<String, Integer> sounds = new HashMap<>();

    World copy() {
      World copy = new World();
      for (Part part : parts) {
        copy.parts.add(part.copy());
      }
      copy.tempo = tempo;
      copy.limit = limit;
      copy.breaks = breaks;
      copy.totals.addAll(totals);
      copy.sounds.putAll(sounds);
      return copy;
    }
  }

  private World world = new World();
  private World snapshot = null;
  private List<World> past = new ArrayList<>();
  private String buffer = "";
  private String output = "";
  private int errorPosition = -1;
  private int failedCommand = -1;

  static int volume(char kind, int note) {
    if (note == 0) {
      return 0;
    }
    return kind == 's' ? note : kind == 'w' ? (note > 6 ? 12 : 2 * note) : new int[] {1, 5}[note % 2];
  }

  private Object changed(World before, Object answer) {
    past.add(before);
    if (past.size() > 8) {
      past.remove(0);
    }
    return answer;
  }

  private Part part(int section) {
    if (section < 0 || section >= world.parts.size()) {
      throw new IndexOutOfBoundsException();
    }
    return world.parts.get(section);
  }

  private static void need(boolean holds) {
    if (!holds) {
      throw new IllegalArgumentException();
    }
  }

  private static void place(boolean holds) {
    if (!holds) {
      throw new IndexOutOfBoundsException();
    }
  }

  private static void element(boolean holds) {
    if (!holds) {
      throw new NoSuchElementException();
    }
  }

  private static boolean isIn(int number, int least, int most) {
    return least <= number && number <= most;
  }

  private static boolean isKind(int kind) {
    return kind == 's' || kind == 'w' || kind == 'd';
  }

  // The methods of the face by their names, with numbers for characters and truths.
  Object call(String method, int... a) {
    World before = world.copy();
    Object answer = change(method, a);
    if (answer != null) {
      return changed(before, answer);
    }
    answer = script(method, a);
    if (answer != null) {
      return answer;
    }
    answer = sectionQuery(method, a);
    return answer != null ? answer : query(method, a);
  }

  private Object change(String method, int... a) {
    switch (method) {
      case "addSection":
        return add((char) a[0], a[1], a[2]);
      case "removeSection":
        part(a[0]);
        world.parts.remove(a[0]);
        return world.parts.size();
      case "setNote":
        place(isIn(a[1], 0, part(a[0]).score.size() - 1) && isIn(a[2], 0, part(a[0]).columns() - 1));
        need(isIn(a[3], 0, 9));
        return part(a[0]).score.get(a[1]).set(a[2], a[3]);
      case "setMasked":
        part(a[0]);
        need(isIn(a[1], 0, 5));
        return a[2] != 0 ? !part(a[0]).mask.add(a[1]) : part(a[0]).mask.remove(a[1]);
      case "transpose":
        part(a[0]).score = transposed(part(a[0]).score);
        return part(a[0]).columns();
      case "reverse":
        return reverse(part(a[0]));
      case "raise":
        return raise(part(a[0]), a[1]);
      case "setTempo":
        need(isIn(a[0], 1, 5));
        int tempo = world.tempo;
        world.tempo = a[0];
        return tempo;
      case "setLimit":
        need(isIn(a[0], 1, 99));
        int limit = world.limit;
        world.limit = a[0];
        return limit;
      case "conductWave":
        return beats(world, world.tempo);
      case "conductBeats":
        need(isIn(a[0], 1, 40));
        return beats(world, a[0]);
      default:
        return null;
    }
  }

  private int add(char kind, int rows, int columns) {
    need(isKind(kind) && isIn(rows, 1, 6) && isIn(columns, 1, 6));
    if (world.parts.size() == 5) {
      throw new IllegalStateException();
    }
    Part part = new Part();
    part.kind = kind;
    for (int row = 0; row < rows; row++) {
      part.score.add(new ArrayList<>(java.util.Collections.nCopies(columns, 0)));
    }
    world.parts.add(part);
    return world.parts.size() - 1;
  }

  private static List<List<Integer>> transposed(List<List<Integer>> score) {
    List<List<Integer>> result = new ArrayList<>();
    for (int column = 0; column < score.get(0).size(); column++) {
      List<Integer> row = new ArrayList<>();
      for (List<Integer> old : score) {
        row.add(old.get(column));
      }
      result.add(row);
    }
    return result;
  }

  private static int reverse(Part part) {
    int different = 0;
    for (List<Integer> row : part.score) {
      List<Integer> old = new ArrayList<>(row);
      java.util.Collections.reverse(row);
      for (int i = 0; i < row.size(); i++) {
        different += row.get(i).equals(old.get(i)) ? 0 : 1;
      }
    }
    return different;
  }

  private static int raise(Part part, int by) {
    need(isIn(by, -9, 9));
    int notes = 0;
    for (List<Integer> row : part.score) {
      for (int note : row) {
        if (note != 0 && !isIn(note + by, 1, 9)) {
          throw new UnsupportedOperationException();
        }
        notes += note != 0 ? 1 : 0;
      }
    }
    for (List<Integer> row : part.score) {
      row.replaceAll(note -> note == 0 ? 0 : note + by);
    }
    return notes;
  }

  private static int beats(World world, int number) {
    int sum = 0;
    for (int i = 0; i < number; i++) {
      sum += beat(world);
    }
    return sum;
  }

  private static int beat(World world) {
    int number = world.totals.size();
    List<Integer> volumes = new ArrayList<>();
    for (Part part : world.parts) {
      int column = number % part.columns();
      int volume = 0;
      if (part.resting > 0) {
        part.resting--;
      } else if (!part.mask.contains(column)) {
        volume = part.volume(column);
        for (List<Integer> row : part.score) {
          if (row.get(column) != 0) {
            world.sounds.merge(part.kind + "" + row.get(column), 1, Integer::sum);
          }
        }
      }
      part.played += volume;
      volumes.add(volume);
    }
    int total = volumes.stream().mapToInt(Integer::intValue).sum();
    world.totals.add(total);
    if (total > world.limit) {
      world.breaks++;
      Part loudest = world.parts.get(volumes.indexOf(java.util.Collections.max(volumes)));
      loudest.fatigue++;
      if (loudest.fatigue == 3) {
        loudest.fatigue = 0;
        loudest.resting = 2;
      }
    }
    return total;
  }

  private Object script(String method, int... a) {
    switch (method) {
      case "type":
        need(isIn(a[0], 32, 126));
        if (buffer.length() == 60) {
          throw new IllegalStateException();
        }
        buffer += (char) a[0];
        return buffer.length();
      case "runScript":
        String script = buffer;
        buffer = "";
        return run(script);
      case "errorPosition":
        element(errorPosition >= 0);
        return errorPosition;
      case "failedCommand":
        element(failedCommand >= 0);
        return failedCommand;
      case "undo":
        if (past.isEmpty()) {
          throw new IllegalStateException();
        }
        world = past.remove(past.size() - 1);
        return past.size();
      case "save":
        snapshot = world.copy();
        return world.parts.size();
      case "restore":
        if (snapshot == null) {
          throw new IllegalStateException();
        }
        world = snapshot.copy();
        past.clear();
        return world.parts.size();
      default:
        return null;
    }
  }

  private int run(String script) {
    if (!SCRIPT.matcher(script).matches()) {
      errorPosition = 0;
      while (errorPosition < script.length() && canGoOn(script.substring(0, errorPosition + 1))) {
        errorPosition++;
      }
      throw new IllegalArgumentException();
    }
    World before = world;
    world = before.copy();
    String[] commands = script.split(";");
    for (int i = 0; i < commands.length; i++) {
      try {
        perform(commands[i]);
      } catch (RuntimeException e) {
        world = before;
        failedCommand = i;
        throw new IllegalStateException();
      }
    }
    changed(before, null);
    return commands.length;
  }

  private static boolean canGoOn(String start) {
    Matcher matcher = SCRIPT.matcher(start);
    return matcher.matches() || matcher.hitEnd();
  }

  private void perform(String command) {
    String[] words = command.split(" ");
    String last = words[words.length - 1];
    switch (words[0]) {
      case "add":
        change("addSection", last.charAt(0), last.charAt(1) - '0', last.charAt(2) - '0');
        break;
      case "drop":
        change("removeSection", Integer.parseInt(last));
        break;
      case "note":
        change("setNote", Integer.parseInt(words[1]), last.charAt(0) - '0', last.charAt(1) - '0',
            last.charAt(3) - '0');
        break;
      case "mask":
        change("setMasked", Integer.parseInt(words[1]), last.charAt(0) - '0', last.endsWith("+") ? 1 : 0);
        break;
      case "flip":
        change("transpose", Integer.parseInt(last));
        break;
      case "turn":
        change("reverse", Integer.parseInt(last));
        break;
      case "raise":
        change("raise", Integer.parseInt(words[1]), Integer.parseInt(last));
        break;
      case "tempo":
        change("setTempo", Integer.parseInt(last));
        break;
      case "limit":
        change("setLimit", Integer.parseInt(last));
        break;
      case "wave":
        change("conductWave");
        break;
      default:
        change("conductBeats", words.length == 1 ? 1 : Integer.parseInt(last));
    }
  }

  private Object sectionQuery(String method, int... a) {
    switch (method) {
      case "kind":
        return part(a[0]).kind;
      case "rows":
        return part(a[0]).score.size();
      case "columns":
        return part(a[0]).columns();
      case "note":
        place(isIn(a[1], 0, part(a[0]).score.size() - 1) && isIn(a[2], 0, part(a[0]).columns() - 1));
        return part(a[0]).score.get(a[1]).get(a[2]);
      case "isMasked":
        part(a[0]);
        need(isIn(a[1], 0, 5));
        return part(a[0]).mask.contains(a[1]);
      case "fatigue":
        return part(a[0]).fatigue;
      case "restingBeats":
        return part(a[0]).resting;
      case "isSymmetric":
        return part(a[0]).score.equals(transposed(part(a[0]).score));
      case "areAlike":
        return part(a[0]).score.equals(part(a[1]).score);
      case "columnVolume":
      case "columnVolumeByTransposing":
        place(isIn(a[1], 0, part(a[0]).columns() - 1));
        return part(a[0]).volume(a[1]);
      case "nextVolume":
        int before = part(a[0]).played;
        World next = world.copy();
        beat(next);
        return next.parts.get(a[0]).played - before;
      case "playedVolume":
        return part(a[0]).played;
      case "maskedShare":
        return (float) part(a[0]).mask.headSet(part(a[0]).columns()).size() / (float) part(a[0]).columns();
      case "renderScore":
        output = part(a[0]).kind + ":"
            + part(a[0]).score.toString().replace("], [", "/").replaceAll("[\\[\\], ]", "");
        return output.length();
      case "renderMask":
        output = mask(part(a[0]));
        return output.length();
      default:
        return null;
    }
  }

  private static String mask(Part part) {
    String text = "";
    for (int column = 0; column < part.columns(); column++) {
      text += part.mask.contains(column) ? "x" : ".";
    }
    return text + "f" + part.fatigue + (part.resting > 0 ? "r" + part.resting : "");
  }

  private Object query(String method, int... a) {
    List<Integer> totals = world.totals;
    long total = totals.stream().mapToLong(Integer::longValue).sum();
    switch (method) {
      case "beatCount":
        return totals.size();
      case "sectionCount":
        return world.parts.size();
      case "tempo":
        return world.tempo;
      case "limit":
        return world.limit;
      case "noteVolume":
        need(isKind(a[0]) && isIn(a[1], 0, 9));
        return volume((char) a[0], a[1]);
      case "nextTotal":
        return beats(world.copy(), 1);
      case "period":
      case "periodBySearch":
        return period();
      case "beatsUntilBreak":
        return beatsUntilBreak();
      case "totalWithin":
        need(isIn(a[0], 0, 60));
        return beats(world.copy(), a[0]);
      case "breakCount":
        return world.breaks;
      case "totalVolume":
      case "totalVolumeBySounds":
        return total;
      case "soundCount":
        need(isKind(a[0]) && isIn(a[1], 1, 9));
        return world.sounds.getOrDefault((char) a[0] + "" + a[1], 0);
      case "greatestTotal":
        element(!totals.isEmpty());
        return java.util.Collections.max(totals);
      case "loggedTotal":
        element(isIn(a[0], 0, Math.min(10, totals.size()) - 1));
        return totals.get(totals.size() - 1 - a[0]);
      case "sectionByVolume":
        element(isIn(a[0], 0, world.parts.size() - 1));
        return sectionsByVolume().get(a[0]);
      case "noteBySounds":
        element(isIn(a[0], 0, 8));
        return notesBySounds().get(a[0]);
      case "meanTotal":
        if (totals.isEmpty()) {
          throw new ArithmeticException();
        }
        return (double) total / (double) totals.size();
      case "isConsistent":
        return true;
      case "outputAt":
        place(isIn(a[0], 0, output.length() - 1));
        return output.charAt(a[0]);
      default:
        throw new AssertionError(method);
    }
  }

  private int period() {
    int beats = 1;
    for (boolean fits = false; !fits; beats += fits ? 0 : 1) {
      fits = true;
      for (Part part : world.parts) {
        fits &= beats % part.columns() == 0;
      }
    }
    return beats;
  }

  private int beatsUntilBreak() {
    World next = world.copy();
    for (int beats = 1; beats <= 60; beats++) {
      beat(next);
      if (next.breaks > world.breaks) {
        return beats;
      }
    }
    throw new NoSuchElementException();
  }

  private List<Integer> sectionsByVolume() {
    List<Integer> sections = new ArrayList<>();
    for (int i = 0; i < world.parts.size(); i++) {
      sections.add(i);
    }
    sections.sort((i, j) -> {
      Part first = world.parts.get(i);
      Part second = world.parts.get(j);
      return first.played != second.played ? second.played - first.played : first.fatigue - second.fatigue;
    });
    return sections;
  }

  private List<Integer> notesBySounds() {
    List<Integer> notes = new ArrayList<>(List.of(9, 8, 7, 6, 5, 4, 3, 2, 1));
    notes.sort((first, second) -> soundsOf(second) - soundsOf(first));
    return notes;
  }

  private int soundsOf(int note) {
    int sounds = 0;
    for (String kind : List.of("s", "w", "d")) {
      sounds += world.sounds.getOrDefault(kind + note, 0);
    }
    return sounds;
  }
}
