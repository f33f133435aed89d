import java.util.NoSuchElementException;

public final class ScoreOrchestra {
  private static final int MOST_SECTIONS = 5;
  private static final int SIDE = 6;
  private static final int HIGHEST_NOTE = 9;
  private static final int KINDS = 3;
  private static final int PLACES_OF_A_KIND = HIGHEST_NOTE + 1;
  private static final int LONGEST_LOG = 10;
  private static final int MOST_UNDONE = 8;
  private static final int MOST_BEATS = 40;
  private static final int FURTHEST_BEAT = 60;
  private static final int LONGEST_TEXT = 60;
  private static final int LONGEST_PERIOD = 60;
  private static final int MOST_COMMANDS = 12;
  private static final int NONE = -1;

  // A change that is refused answers one of these; no change that is made answers a negative number.
  private static final int BAD_INDEX = -1;
  private static final int BAD_ARGUMENT = -2;
  private static final int BAD_STATE = -3;
  private static final int UNSUPPORTED = -4;

  private static final Verb[] VERBS = Verb.values();

  private final State now;
  // Predictions are played here, so that the state itself stays as it is.
  private final State sandbox;
  private final State snapshot;
  private boolean hasSnapshot;
  private final History history;
  private final Section transposed;
  private final Script script;
  private final Text output;
  private int latestErrorPosition;
  private int latestFailedCommand;

  public ScoreOrchestra() {
    now = new State();
    sandbox = new State();
    snapshot = new State();
    hasSnapshot = false;
    history = new History();
    transposed = new Section();
    script = new Script();
    output = new Text();
    latestErrorPosition = NONE;
    latestFailedCommand = NONE;
  }

  public int addSection(char kind, int rows, int columns) throws IllegalArgumentException, IllegalStateException {
    history.prepare(now);
    return settled(now.add(kind, rows, columns));
  }

  public int removeSection(int section) throws IndexOutOfBoundsException {
    history.prepare(now);
    return settled(now.drop(section));
  }

  public int setNote(int section, int row, int column, int note)
      throws IndexOutOfBoundsException, IllegalArgumentException {
    history.prepare(now);
    return settled(now.write(section, row, column, note));
  }

  public boolean setMasked(int section, int column, boolean isMasked)
      throws IndexOutOfBoundsException, IllegalArgumentException {
    history.prepare(now);
    return settled(now.mask(section, column, isMasked)) != 0;
  }

  public int transpose(int section) throws IndexOutOfBoundsException {
    history.prepare(now);
    return settled(now.flip(section));
  }

  public int reverse(int section) throws IndexOutOfBoundsException {
    history.prepare(now);
    return settled(now.turn(section));
  }

  public int raise(int section, int by)
      throws IndexOutOfBoundsException, IllegalArgumentException, UnsupportedOperationException {
    history.prepare(now);
    return settled(now.lift(section, by));
  }

  public int setTempo(int tempo) throws IllegalArgumentException {
    history.prepare(now);
    return settled(now.changeTempo(tempo));
  }

  public int setLimit(int limit) throws IllegalArgumentException {
    history.prepare(now);
    return settled(now.changeLimit(limit));
  }

  public int conductWave() {
    history.prepare(now);
    return settled(now.play(now.tempo));
  }

  public int conductBeats(int beats) throws IllegalArgumentException {
    history.prepare(now);
    return settled(isBeats(beats) ? now.play(beats) : BAD_ARGUMENT);
  }

  public int beatCount() {
    return now.beats;
  }

  public int sectionCount() {
    return now.count;
  }

  public int tempo() {
    return now.tempo;
  }

  public int limit() {
    return now.limit;
  }

  public char kind(int section) throws IndexOutOfBoundsException {
    return presentSection(section).kind;
  }

  public int rows(int section) throws IndexOutOfBoundsException {
    return presentSection(section).rows;
  }

  public int columns(int section) throws IndexOutOfBoundsException {
    return presentSection(section).columns;
  }

  public int note(int section, int row, int column) throws IndexOutOfBoundsException {
    Section asked = presentSection(section);
    if (!asked.hasPlace(row, column)) {
      throw new IndexOutOfBoundsException("no such row or column");
    }
    return asked.noteAt(row, column);
  }

  public boolean isMasked(int section, int column) throws IndexOutOfBoundsException, IllegalArgumentException {
    Section asked = presentSection(section);
    if (!isMaskColumn(column)) {
      throw new IllegalArgumentException("no such column number");
    }
    return asked.masks(column);
  }

  public int fatigue(int section) throws IndexOutOfBoundsException {
    return presentSection(section).fatigue;
  }

  public int restingBeats(int section) throws IndexOutOfBoundsException {
    return presentSection(section).resting;
  }

  public boolean isSymmetric(int section) throws IndexOutOfBoundsException {
    Section asked = presentSection(section);
    transposed.copyFrom(asked);
    transposed.flip();
    return transposed.hasScoreOf(asked);
  }

  public boolean areAlike(int first, int second) throws IndexOutOfBoundsException {
    return presentSection(first).hasScoreOf(presentSection(second));
  }

  public int noteVolume(char kind, int note) throws IllegalArgumentException {
    if (kindIndex(kind) < 0 || note < 0 || note > HIGHEST_NOTE) {
      throw new IllegalArgumentException("no such kind or note");
    }
    return volumeOf(kind, note);
  }

  public int columnVolume(int section, int column) throws IndexOutOfBoundsException {
    return sectionWithColumn(section, column).volumeOfColumn(column);
  }

  public int columnVolumeByTransposing(int section, int column) throws IndexOutOfBoundsException {
    transposed.copyFrom(sectionWithColumn(section, column));
    transposed.flip();
    return transposed.volumeOfRow(column);
  }

  public int nextVolume(int section) throws IndexOutOfBoundsException {
    return presentSection(section).volumeIn(now.beats);
  }

  public int nextTotal() {
    int total = 0;
    for (int i = 0; i < now.count; i++) {
      total += nextVolume(i);
    }
    return total;
  }

  public int period() {
    int common = 1;
    for (int i = 0; i < now.count; i++) {
      common = leastCommonMultiple(common, columns(i));
    }
    return common;
  }

  public int periodBySearch() {
    for (int beats = 1; beats < LONGEST_PERIOD; beats++) {
      if (isPeriod(beats)) {
        return beats;
      }
    }
    return LONGEST_PERIOD;
  }

  public int beatsUntilBreak() throws NoSuchElementException {
    sandbox.copyFrom(now);
    for (int beats = 1; beats <= FURTHEST_BEAT; beats++) {
      if (sandbox.playBeat() > sandbox.limit) {
        return beats;
      }
    }
    throw new NoSuchElementException("the wave does not break within 60 beats");
  }

  public int totalWithin(int beats) throws IllegalArgumentException {
    if (beats < 0 || beats > FURTHEST_BEAT) {
      throw new IllegalArgumentException("beats not between 0 and 60");
    }
    sandbox.copyFrom(now);
    return sandbox.play(beats);
  }

  public int breakCount() {
    return now.breaks;
  }

  public int playedVolume(int section) throws IndexOutOfBoundsException {
    return presentSection(section).played;
  }

  public long totalVolume() {
    return now.total;
  }

  public long totalVolumeBySounds() {
    return soundsVolume('s') + soundsVolume('w') + soundsVolume('d');
  }

  public int soundCount(char kind, int note) throws IllegalArgumentException {
    if (kindIndex(kind) < 0 || note < 1 || note > HIGHEST_NOTE) {
      throw new IllegalArgumentException("no such kind or note");
    }
    return now.soundsOf(kind, note);
  }

  public int greatestTotal() throws NoSuchElementException {
    if (now.beats == 0) {
      throw new NoSuchElementException("no beat so far");
    }
    return now.greatest;
  }

  public int loggedTotal(int recency) throws NoSuchElementException {
    if (recency < 0 || recency >= LONGEST_LOG || recency >= now.beats) {
      throw new NoSuchElementException("no such beat in the log");
    }
    return now.totalOf(now.beats - 1 - recency);
  }

  public int sectionByVolume(int rank) throws NoSuchElementException {
    for (int section = 0; section < now.count; section++) {
      if (sectionRank(section) == rank) {
        return section;
      }
    }
    throw new NoSuchElementException("no section has this rank");
  }

  public int noteBySounds(int rank) throws NoSuchElementException {
    for (int note = 1; note <= HIGHEST_NOTE; note++) {
      if (noteRank(note) == rank) {
        return note;
      }
    }
    throw new NoSuchElementException("no note has this rank");
  }

  public double meanTotal() throws ArithmeticException {
    if (now.beats == 0) {
      throw new ArithmeticException("no beat so far");
    }
    return (double) now.total / (double) now.beats;
  }

  public float maskedShare(int section) throws IndexOutOfBoundsException {
    Section asked = presentSection(section);
    if (asked.columns == 0) {
      return 0;
    }
    return (float) asked.maskedColumns() / (float) asked.columns;
  }

  public boolean isConsistent() {
    return totalVolume() == totalVolumeBySounds() && period() == periodBySearch() && columnVolumesAgree();
  }

  public int renderScore(int section) throws IndexOutOfBoundsException {
    Section asked = presentSection(section);
    output.clear();
    output.append(asked.kind);
    output.append(':');
    for (int row = 0; row < asked.rows; row++) {
      if (row > 0) {
        output.append('/');
      }
      for (int column = 0; column < asked.columns; column++) {
        output.append(digitSign(asked.noteAt(row, column)));
      }
    }
    return output.length;
  }

  public int renderMask(int section) throws IndexOutOfBoundsException {
    Section asked = presentSection(section);
    output.clear();
    for (int column = 0; column < asked.columns; column++) {
      output.append(asked.masks(column) ? 'x' : '.');
    }
    output.append('f');
    output.append(digitSign(asked.fatigue));
    if (asked.resting > 0) {
      output.append('r');
      output.append(digitSign(asked.resting));
    }
    return output.length;
  }

  public char outputAt(int index) throws IndexOutOfBoundsException {
    if (!output.has(index)) {
      throw new IndexOutOfBoundsException("no such index in the output text");
    }
    return output.signAt(index);
  }

  public int type(char character) throws IllegalArgumentException, IllegalStateException {
    if (character < 32 || character > 126) {
      throw new IllegalArgumentException("character code not between 32 and 126");
    }
    if (script.buffer.isFull()) {
      throw new IllegalStateException("the script buffer is full");
    }
    script.buffer.append(character);
    return script.buffer.length;
  }

  public int runScript() throws IllegalArgumentException, IllegalStateException {
    boolean hasForm = script.read();
    script.buffer.clear();
    if (!hasForm) {
      latestErrorPosition = script.position;
      throw new IllegalArgumentException("the script does not have the required form");
    }
    history.prepare(now);
    for (int i = 0; i < script.count && i < script.commands.length; i++) {
      if (perform(script.commands[i]) < 0) {
        history.putBack(now);
        latestFailedCommand = i;
        throw new IllegalStateException("a command of the script failed");
      }
    }
    history.keep();
    return script.count;
  }

  public int errorPosition() throws NoSuchElementException {
    if (latestErrorPosition == NONE) {
      throw new NoSuchElementException("no script without the required form");
    }
    return latestErrorPosition;
  }

  public int failedCommand() throws NoSuchElementException {
    if (latestFailedCommand == NONE) {
      throw new NoSuchElementException("no script with a failed command");
    }
    return latestFailedCommand;
  }

  public int undo() throws IllegalStateException {
    if (history.count == 0) {
      throw new IllegalStateException("nothing to undo");
    }
    history.stepBack(now);
    return history.count;
  }

  public int save() {
    snapshot.copyFrom(now);
    hasSnapshot = true;
    return now.count;
  }

  public int restore() throws IllegalStateException {
    if (!hasSnapshot) {
      throw new IllegalStateException("no snapshot");
    }
    now.copyFrom(snapshot);
    history.forget();
    return now.count;
  }

  // The answer of a change that was made and can be undone from now on, or the exception of one that was refused.
  private int settled(int answer) {
    if (answer == BAD_INDEX) {
      throw new IndexOutOfBoundsException("no such section, row or column");
    }
    if (answer == BAD_ARGUMENT) {
      throw new IllegalArgumentException("an argument is out of its range");
    }
    if (answer == BAD_STATE) {
      throw new IllegalStateException("there are 5 sections");
    }
    if (answer == UNSUPPORTED) {
      throw new UnsupportedOperationException("a note would not be between 1 and 9");
    }
    history.keep();
    return answer;
  }

  private Section presentSection(int section) {
    if (!now.hasSection(section)) {
      throw new IndexOutOfBoundsException("no such section");
    }
    return now.sections[section];
  }

  private Section sectionWithColumn(int section, int column) {
    Section asked = presentSection(section);
    if (!asked.hasColumn(column)) {
      throw new IndexOutOfBoundsException("no such column");
    }
    return asked;
  }

  private boolean isPeriod(int beats) {
    for (int i = 0; i < now.count; i++) {
      int columns = columns(i);
      if (columns == 0 || beats % columns != 0) {
        return false;
      }
    }
    return true;
  }

  private long soundsVolume(char kind) {
    long volume = 0;
    for (int note = 1; note <= HIGHEST_NOTE; note++) {
      volume += (long) now.soundsOf(kind, note) * volumeOf(kind, note);
    }
    return volume;
  }

  private boolean columnVolumesAgree() {
    for (int section = 0; section < now.count; section++) {
      for (int column = 0; column < columns(section); column++) {
        if (columnVolume(section, column) != columnVolumeByTransposing(section, column)) {
          return false;
        }
      }
    }
    return true;
  }

  private int sectionRank(int section) {
    int rank = 0;
    for (int other = 0; other < now.count; other++) {
      if (precedes(other, section)) {
        rank++;
      }
    }
    return rank;
  }

  private boolean precedes(int first, int second) {
    if (playedVolume(first) != playedVolume(second)) {
      return playedVolume(first) > playedVolume(second);
    }
    if (fatigue(first) != fatigue(second)) {
      return fatigue(first) < fatigue(second);
    }
    return first < second;
  }

  private int noteRank(int note) {
    int sounds = now.soundsOfAllKinds(note);
    int rank = 0;
    for (int other = 1; other <= HIGHEST_NOTE; other++) {
      int otherSounds = now.soundsOfAllKinds(other);
      if (otherSounds > sounds || otherSounds == sounds && other > note) {
        rank++;
      }
    }
    return rank;
  }

  private int perform(Command command) {
    int first = command.valueAt(0);
    int second = command.valueAt(1);
    int third = command.valueAt(2);
    switch (command.verb) {
      case ADD:
        return now.add((char) first, second, third);
      case DROP:
        return now.drop(first);
      case NOTE:
        return now.write(first, second, third, command.valueAt(3));
      case MASK:
        return now.mask(first, second, third > 0);
      case FLIP:
        return now.flip(first);
      case TURN:
        return now.turn(first);
      case RAISE:
        return now.lift(first, second * third);
      case TEMPO:
        return now.changeTempo(first);
      case LIMIT:
        return now.changeLimit(first);
      case WAVE:
        return now.play(now.tempo);
      default:
        return isBeats(first) ? now.play(first) : BAD_ARGUMENT;
    }
  }

  private static int kindIndex(char kind) {
    switch (kind) {
      case 's':
        return 0;
      case 'w':
        return 1;
      case 'd':
        return 2;
      default:
        return NONE;
    }
  }

  private static int volumeOf(char kind, int note) {
    if (note == 0 || kind == 's') {
      return note;
    }
    if (kind == 'w') {
      return note > 6 ? 12 : 2 * note;
    }
    return note % 2 == 0 ? 1 : 5;
  }

  private static boolean isSide(int number) {
    return number >= 1 && number <= SIDE;
  }

  private static boolean isMaskColumn(int column) {
    return column >= 0 && column < SIDE;
  }

  private static boolean isBeats(int number) {
    return number >= 1 && number <= MOST_BEATS;
  }

  private static char digitSign(int digit) {
    return (char) ('0' + digit);
  }

  private static void copyNumbers(int[] from, int[] to) {
    System.arraycopy(from, 0, to, 0, Math.min(from.length, to.length));
  }

  private static int leastCommonMultiple(int first, int second) {
    int divisor = greatestCommonDivisor(first, second);
    return divisor == 0 ? 0 : first / divisor * second;
  }

  private static int greatestCommonDivisor(int first, int second) {
    int greater = first;
    int smaller = second;
    for (int step = 0; step < 100 && smaller != 0; step++) {
      int rest = greater % smaller;
      greater = smaller;
      smaller = rest;
    }
    return greater;
  }

  private static final class Section {
    char kind = 's';
    int rows = 1;
    int columns = 1;
    // Row by row, SIDE places a row; the places outside of the score hold 0.
    final int[] notes = new int[SIDE * SIDE];
    // Bit c is set if the column number c is in the mask.
    int mask = 0;
    int fatigue = 0;
    int resting = 0;
    int played = 0;

    void begin(char newKind, int newRows, int newColumns) {
      kind = newKind;
      rows = newRows;
      columns = newColumns;
      for (int i = 0; i < notes.length; i++) {
        notes[i] = 0;
      }
      mask = 0;
      fatigue = 0;
      resting = 0;
      played = 0;
    }

    void copyFrom(Section other) {
      kind = other.kind;
      rows = other.rows;
      columns = other.columns;
      copyNumbers(other.notes, notes);
      mask = other.mask;
      fatigue = other.fatigue;
      resting = other.resting;
      played = other.played;
    }

    boolean hasRow(int row) {
      return row >= 0 && row < rows && row < SIDE;
    }

    boolean hasColumn(int column) {
      return column >= 0 && column < columns && column < SIDE;
    }

    boolean hasPlace(int row, int column) {
      return hasRow(row) && hasColumn(column);
    }

    int noteAt(int row, int column) {
      return hasPlace(row, column) ? notes[row * SIDE + column] : 0;
    }

    void putNote(int row, int column, int note) {
      if (hasPlace(row, column)) {
        notes[row * SIDE + column] = note;
      }
    }

    boolean hasScoreOf(Section other) {
      if (rows != other.rows || columns != other.columns) {
        return false;
      }
      for (int i = 0; i < notes.length && i < other.notes.length; i++) {
        if (notes[i] != other.notes[i]) {
          return false;
        }
      }
      return true;
    }

    void flip() {
      for (int row = 0; row < SIDE; row++) {
        for (int column = 0; column < row; column++) {
          int below = row * SIDE + column;
          int above = column * SIDE + row;
          int moved = notes[below];
          notes[below] = notes[above];
          notes[above] = moved;
        }
      }
      int formerRows = rows;
      rows = columns;
      columns = formerRows;
    }

    int turn() {
      int different = 0;
      for (int row = 0; row < rows; row++) {
        for (int left = 0; left < columns / 2; left++) {
          int right = columns - 1 - left;
          int moved = noteAt(row, left);
          putNote(row, left, noteAt(row, right));
          putNote(row, right, moved);
          if (noteAt(row, left) != moved) {
            different += 2;
          }
        }
      }
      return different;
    }

    boolean canLift(int by) {
      for (int i = 0; i < notes.length; i++) {
        int lifted = notes[i] + by;
        if (notes[i] != 0 && (lifted < 1 || lifted > HIGHEST_NOTE)) {
          return false;
        }
      }
      return true;
    }

    int lift(int by) {
      int lifted = 0;
      for (int i = 0; i < notes.length; i++) {
        if (notes[i] != 0) {
          notes[i] += by;
          lifted++;
        }
      }
      return lifted;
    }

    int volumeOfColumn(int column) {
      int volume = 0;
      for (int at = column; at >= 0 && at < notes.length; at += SIDE) {
        volume += volumeOf(kind, notes[at]);
      }
      return volume;
    }

    int volumeOfRow(int row) {
      int volume = 0;
      for (int column = 0; column < columns; column++) {
        volume += volumeOf(kind, noteAt(row, column));
      }
      return volume;
    }

    boolean masks(int column) {
      return (mask >> column & 1) != 0;
    }

    void putMask(int column, boolean isIn) {
      mask = isIn ? mask | 1 << column : mask & ~(1 << column);
    }

    int maskedColumns() {
      int masked = 0;
      for (int column = 0; column < columns; column++) {
        if (masks(column)) {
          masked++;
        }
      }
      return masked;
    }

    int columnIn(int beat) {
      return columns > 0 ? beat % columns : 0;
    }

    int volumeIn(int beat) {
      int column = columnIn(beat);
      return resting > 0 || masks(column) ? 0 : volumeOfColumn(column);
    }

    void tire() {
      fatigue++;
      if (fatigue == 3) {
        fatigue = 0;
        resting = 2;
      }
    }
  }

  // Everything that undo and the snapshot cover.
  private static final class State {
    final Section[] sections = new Section[MOST_SECTIONS];
    int count = 0;
    int tempo = 2;
    int limit = 30;
    int beats = 0;
    int breaks = 0;
    int greatest = 0;
    long total = 0;
    // For each kind a place for each note; the place of the note 0 is never counted in.
    final int[] sounds = new int[KINDS * PLACES_OF_A_KIND];
    // The total of the beat b stands at b modulo LONGEST_LOG.
    final int[] log = new int[LONGEST_LOG];

    State() {
      for (int i = 0; i < sections.length; i++) {
        sections[i] = new Section();
      }
    }

    void copyFrom(State other) {
      for (int i = 0; i < sections.length && i < other.sections.length; i++) {
        sections[i].copyFrom(other.sections[i]);
      }
      count = other.count;
      tempo = other.tempo;
      limit = other.limit;
      beats = other.beats;
      breaks = other.breaks;
      greatest = other.greatest;
      total = other.total;
      copyNumbers(other.sounds, sounds);
      copyNumbers(other.log, log);
    }

    boolean hasSection(int section) {
      return section >= 0 && section < count && section < sections.length;
    }

    int add(char kind, int rows, int columns) {
      if (kindIndex(kind) < 0 || !isSide(rows) || !isSide(columns)) {
        return BAD_ARGUMENT;
      }
      if (count < 0 || count >= sections.length) {
        return BAD_STATE;
      }
      sections[count].begin(kind, rows, columns);
      count++;
      return count - 1;
    }

    int drop(int section) {
      if (!hasSection(section)) {
        return BAD_INDEX;
      }
      Section dropped = sections[section];
      for (int i = section; i + 1 < sections.length; i++) {
        sections[i] = sections[i + 1];
      }
      // The place behind the last section is written anew by the next add.
      sections[sections.length - 1] = dropped;
      count--;
      return count;
    }

    int write(int section, int row, int column, int note) {
      if (!hasSection(section) || !sections[section].hasPlace(row, column)) {
        return BAD_INDEX;
      }
      if (note < 0 || note > HIGHEST_NOTE) {
        return BAD_ARGUMENT;
      }
      int previous = sections[section].noteAt(row, column);
      sections[section].putNote(row, column, note);
      return previous;
    }

    int mask(int section, int column, boolean isIn) {
      if (!hasSection(section)) {
        return BAD_INDEX;
      }
      if (!isMaskColumn(column)) {
        return BAD_ARGUMENT;
      }
      boolean wasIn = sections[section].masks(column);
      sections[section].putMask(column, isIn);
      return wasIn ? 1 : 0;
    }

    int flip(int section) {
      if (!hasSection(section)) {
        return BAD_INDEX;
      }
      sections[section].flip();
      return sections[section].columns;
    }

    int turn(int section) {
      return hasSection(section) ? sections[section].turn() : BAD_INDEX;
    }

    int lift(int section, int by) {
      if (!hasSection(section)) {
        return BAD_INDEX;
      }
      if (by < -HIGHEST_NOTE || by > HIGHEST_NOTE) {
        return BAD_ARGUMENT;
      }
      return sections[section].canLift(by) ? sections[section].lift(by) : UNSUPPORTED;
    }

    int changeTempo(int newTempo) {
      if (newTempo < 1 || newTempo > 5) {
        return BAD_ARGUMENT;
      }
      int previous = tempo;
      tempo = newTempo;
      return previous;
    }

    int changeLimit(int newLimit) {
      if (newLimit < 1 || newLimit > 99) {
        return BAD_ARGUMENT;
      }
      int previous = limit;
      limit = newLimit;
      return previous;
    }

    int play(int number) {
      int sum = 0;
      for (int i = 0; i < number; i++) {
        sum += playBeat();
      }
      return sum;
    }

    int playBeat() {
      int beatTotal = 0;
      Section loudest = null;
      int greatestVolume = 0;
      for (int i = 0; i < count && i < sections.length; i++) {
        int volume = playSection(sections[i]);
        beatTotal += volume;
        if (volume > greatestVolume) {
          greatestVolume = volume;
          loudest = sections[i];
        }
      }
      // A total above the limit is above 0, so one of the sections was the loudest.
      if (beatTotal > limit && loudest != null) {
        breaks++;
        loudest.tire();
      }
      logTotal(beatTotal);
      return beatTotal;
    }

    int playSection(Section section) {
      if (section.resting > 0) {
        section.resting--;
        return 0;
      }
      int column = section.columnIn(beats);
      if (section.masks(column)) {
        return 0;
      }
      recordSounds(section, column);
      int volume = section.volumeOfColumn(column);
      section.played += volume;
      return volume;
    }

    void recordSounds(Section section, int column) {
      int kindPlaces = kindIndex(section.kind) * PLACES_OF_A_KIND;
      for (int at = column; at >= 0 && at < section.notes.length; at += SIDE) {
        int place = kindPlaces + section.notes[at];
        if (section.notes[at] != 0 && place >= 0 && place < sounds.length) {
          sounds[place]++;
        }
      }
    }

    void logTotal(int beatTotal) {
      int at = beats % LONGEST_LOG;
      if (at >= 0 && at < log.length) {
        log[at] = beatTotal;
      }
      greatest = Math.max(greatest, beatTotal);
      total += beatTotal;
      beats++;
    }

    int totalOf(int beat) {
      int at = beat % LONGEST_LOG;
      return at >= 0 && at < log.length ? log[at] : 0;
    }

    int soundsOf(char kind, int note) {
      int place = kindIndex(kind) * PLACES_OF_A_KIND + note;
      return place >= 0 && place < sounds.length ? sounds[place] : 0;
    }

    int soundsOfAllKinds(int note) {
      return soundsOf('s', note) + soundsOf('w', note) + soundsOf('d', note);
    }
  }

  // The states before the changes that can be undone, in a ring with one place more for the change under way.
  private static final class History {
    final State[] states = new State[MOST_UNDONE + 1];
    int next = 0;
    int count = 0;

    History() {
      for (int i = 0; i < states.length; i++) {
        states[i] = new State();
      }
    }

    void prepare(State current) {
      if (next >= 0 && next < states.length) {
        states[next].copyFrom(current);
      }
    }

    void keep() {
      next = next + 1 < states.length ? next + 1 : 0;
      count = Math.min(count + 1, MOST_UNDONE);
    }

    void putBack(State current) {
      if (next >= 0 && next < states.length) {
        current.copyFrom(states[next]);
      }
    }

    void stepBack(State current) {
      next = next > 0 ? next - 1 : states.length - 1;
      count--;
      putBack(current);
    }

    void forget() {
      count = 0;
    }
  }

  private static final class Text {
    final char[] signs = new char[LONGEST_TEXT];
    int length = 0;

    void clear() {
      length = 0;
    }

    boolean isFull() {
      return length >= signs.length;
    }

    void append(char sign) {
      if (length >= 0 && length < signs.length) {
        signs[length] = sign;
        length++;
      }
    }

    boolean has(int index) {
      return index >= 0 && index < length && index < signs.length;
    }

    // The sign 0, which cannot be typed, where the text has ended.
    char signAt(int index) {
      return index >= 0 && index < length && index < signs.length ? signs[index] : 0;
    }
  }

  // The word that begins a command, and the form of what follows it: k for a kind, d for a digit, n for a number,
  // + for a sign, b for a blank and a number or nothing, and any other character for itself.
  private enum Verb {
    ADD("add ", "kdd"),
    DROP("drop ", "d"),
    NOTE("note ", "d dd=d"),
    MASK("mask ", "d d+"),
    FLIP("flip ", "d"),
    TURN("turn ", "d"),
    RAISE("raise ", "d +d"),
    TEMPO("tempo ", "d"),
    LIMIT("limit ", "n"),
    WAVE("wave", ""),
    BEAT("beat", "b");

    final String word;
    final String form;

    Verb(String word, String form) {
      this.word = word;
      this.form = form;
    }
  }

  private static final class Command {
    Verb verb = Verb.WAVE;
    final int[] values = new int[4];
    int count = 0;

    void begin(Verb newVerb) {
      verb = newVerb;
      count = 0;
    }

    void put(int value) {
      if (count >= 0 && count < values.length) {
        values[count] = value;
        count++;
      }
    }

    int valueAt(int index) {
      return index >= 0 && index < count && index < values.length ? values[index] : 0;
    }
  }

  private static final class Script {
    final Text buffer = new Text();
    final Command[] commands = new Command[MOST_COMMANDS];
    int count = 0;
    // While a script is read, the first character that has not been taken; where reading fails, the error position.
    int position = 0;

    Script() {
      for (int i = 0; i < commands.length; i++) {
        commands[i] = new Command();
      }
    }

    boolean read() {
      position = 0;
      count = 0;
      for (int i = 0; i <= LONGEST_TEXT; i++) {
        if (!readCommand()) {
          return false;
        }
        if (position == buffer.length) {
          return true;
        }
        if (!take(';')) {
          return false;
        }
      }
      return false;
    }

    boolean readCommand() {
      int verb = readWord();
      if (verb < 0 || verb >= VERBS.length || count < 0 || count >= commands.length) {
        return false;
      }
      String form = VERBS[verb].form;
      commands[count].begin(VERBS[verb]);
      for (int i = 0; i < form.length(); i++) {
        if (!readPart(commands[count], form.charAt(i))) {
          return false;
        }
      }
      count++;
      return true;
    }

    // Answers the index of the verb whose word stands here. No word begins with another one, so where none stands
    // whole, the one that goes furthest tells the error position.
    int readWord() {
      int furthest = 0;
      for (int i = 0; i < VERBS.length; i++) {
        int common = commonLength(VERBS[i].word);
        if (common == VERBS[i].word.length()) {
          position += common;
          return i;
        }
        furthest = Math.max(furthest, common);
      }
      position += furthest;
      return NONE;
    }

    int commonLength(String word) {
      for (int i = 0; i < word.length(); i++) {
        if (buffer.signAt(position + i) != word.charAt(i)) {
          return i;
        }
      }
      return word.length();
    }

    boolean readPart(Command command, char part) {
      switch (part) {
        case 'k':
          return readKind(command);
        case 'd':
          return readDigit(command);
        case 'n':
          return readNumber(command);
        case '+':
          return readSign(command);
        case 'b':
          if (take(' ')) {
            return readNumber(command);
          }
          command.put(1);
          return true;
        default:
          return take(part);
      }
    }

    boolean readKind(Command command) {
      char kind = buffer.signAt(position);
      if (kindIndex(kind) < 0) {
        return false;
      }
      command.put(kind);
      position++;
      return true;
    }

    boolean readDigit(Command command) {
      int digit = takeDigit();
      if (digit == NONE) {
        return false;
      }
      command.put(digit);
      return true;
    }

    boolean readNumber(Command command) {
      int first = takeDigit();
      if (first == NONE) {
        return false;
      }
      int second = takeDigit();
      command.put(second == NONE ? first : 10 * first + second);
      return true;
    }

    boolean readSign(Command command) {
      char sign = buffer.signAt(position);
      if (sign != '+' && sign != '-') {
        return false;
      }
      command.put(sign == '+' ? 1 : -1);
      position++;
      return true;
    }

    // The digit that stands here, or NONE.
    int takeDigit() {
      char sign = buffer.signAt(position);
      if (sign < '0' || sign > '9') {
        return NONE;
      }
      position++;
      return sign - '0';
    }

    boolean take(char sign) {
      if (buffer.signAt(position) != sign) {
        return false;
      }
      position++;
      return true;
    }
  }
}
