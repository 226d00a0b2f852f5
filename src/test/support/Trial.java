import java.util.ArrayList;
import java.util.List;

/**
 * One object under trial: its calls are written down, so that a wrong answer is told with the run that led to it. More
 * than 512 calls are never asked of it, since what they answer is free.
 */
final class Trial {
  static final int MOST_CALLS = 512;
  static final double ENDLESS = Double.POSITIVE_INFINITY;
  private static final int TOLD_CALLS = 12;

  private final OrreryWorks works = new OrreryWorks();
  private final String sentence;
  private final String[] told = new String[MOST_CALLS];
  private int calls = 0;
  private int wrong = 0;
  private boolean anyNumber = false;
  private final List<Row> strips = new ArrayList<>();
  /** By stands, at which places something was put. */
  private final List<boolean[]> stands = new ArrayList<>();
  private int standOfAll = OrreryWorks.NONE;

  private static final class Row {
    final int lane;
    final int places;
    boolean gone = false;

    Row(int lane, int places) {
      this.lane = lane;
      this.places = places;
    }
  }

  Trial(String sentence) {
    this.sentence = sentence;
  }

  static long d(double value) {
    return Double.doubleToRawLongBits(value);
  }

  static long f(float value) {
    return Float.floatToRawIntBits(value);
  }

  Trial twin() {
    return new Trial(sentence);
  }

  int wrong() {
    return wrong;
  }

  int calls() {
    return calls;
  }

  /** Whether the latest call, count(), often() and refused() apart, was one whose answer may be any number. */
  boolean answeredAnyNumber() {
    return anyNumber;
  }

  void due(long want, long got) {
    if (got != want) tell("answered " + got + ", due is " + want);
  }

  void accepted(long want, long got) {
    due(want, got);
    due(0, refused());
  }

  void refused(int why, long got) {
    due(anyNumber ? 0 : why, got);
    due(why, refused());
  }

  void same(String want, String got) {
    if (!want.equals(got)) tell("left " + got + ", due is " + want);
  }

  private void tell(String what) {
    wrong++;
    System.out.println("\"" + sentence + "\"");
    if (calls > TOLD_CALLS) System.out.println("    .. " + (calls - TOLD_CALLS) + " calls ..");
    for (int i = Math.max(0, calls - TOLD_CALLS); i < calls; i++) System.out.println("    " + told[i]);
    System.out.println("    " + what);
  }

  private long note(String name, boolean mayBeAnyNumber, long answer, long... arguments) {
    if (calls >= MOST_CALLS) throw new IllegalStateException("the test asks for more than 512 calls");
    StringBuilder text = new StringBuilder(name).append('(');
    for (int i = 0; i < arguments.length; i++) text.append(i == 0 ? "" : ", ").append(arguments[i]);
    told[calls++] = text.append(") = ").append(answer).toString();
    anyNumber = mayBeAnyNumber;
    return answer;
  }

  private int ask(String name, int answer, long... arguments) {
    boolean before = anyNumber;
    note(name, before, answer, arguments);
    return answer;
  }

  /** How often each refusal came, FULL first, NULL last. */
  int[] oftens() {
    int[] oftens = new int[OrreryWorks.FULL - OrreryWorks.NULL + 1];
    for (int i = 0; i < oftens.length; i++) oftens[i] = often(OrreryWorks.FULL - i);
    return oftens;
  }

  /**
   * All that can be seen of what the object holds, but for what is counted of refusals. Nothing is asked that would be
   * refused, or what a refusal changes could hide behind that; only what is bare is asked for, at the end.
   */
  String state() {
    StringBuilder text = new StringBuilder();
    int[] counts = new int[5];
    for (int what = 0; what < counts.length; what++) {
      counts[what] = count(what);
      text.append(counts[what]).append(' ');
    }
    for (int i = 0; i < counts[0]; i++) text.append("W ").append(wheelOf(i, 0)).append(' ').append(wheelOf(i, 1)).append(' ');
    for (int i = 0; i < counts[1]; i++) {
      text.append("R ");
      for (int kind = 0; kind <= 3; kind++) text.append(read(i, kind)).append(' ');
    }
    for (int i = 0; i < stands.size(); i++) addBorne(text.append("T "), i);
    for (int i = 0; i < strips.size(); i++) addStrip(text.append("S "), i);
    for (int i = 0; i < stands.size(); i++) addBare(text.append("B "), i);
    addPointers(text.append("P "), counts[3]);
    return text.toString();
  }

  private void addStrip(StringBuilder text, int strip) {
    Row row = strips.get(strip);
    if (row.gone) {
      text.append("gone ").append(tear(strip)).append(' ');
      return;
    }
    for (int i = 0; i < row.places; i++) text.append(kept(strip, row.lane, i)).append('/').append(refused()).append(' ');
  }

  private void addBorne(StringBuilder text, int stand) {
    boolean[] borne = stands.get(stand);
    for (int i = 0; i < borne.length; i++) {
      if (borne[i]) text.append(show(stand, i)).append('/').append(refused()).append(' ');
    }
    text.append(all(stand)).append(' ');
  }

  private void addBare(StringBuilder text, int stand) {
    boolean[] borne = stands.get(stand);
    for (int i = 0; i < borne.length; i++) {
      if (!borne[i]) text.append(show(stand, i)).append('/').append(refused()).append(' ');
    }
  }

  /** Each is hung on a stand that takes all, if there is one: this is the last look at the object. */
  private void addPointers(StringBuilder text, int pointers) {
    if (standOfAll < 0) return;
    for (int i = 0; i < pointers; i++) {
      hang(standOfAll, 0, i);
      text.append(show(standOfAll, 0)).append(' ');
    }
  }

  long wheel(int kind, long turn) {
    return note("wheel", false, works.wheel(kind, turn), kind, turn);
  }

  long turn(int wheel, long by) {
    return note("turn", true, works.turn(wheel, by), wheel, by);
  }

  long wheelOf(int wheel, int what) {
    return note("wheelOf", true, works.wheelOf(wheel, what), wheel, what);
  }

  long register(int kind) {
    return note("register", false, works.register(kind), kind);
  }

  long load(int register, int kind, long bits) {
    return note("load", false, works.load(register, kind, bits), register, kind, bits);
  }

  long read(int register, int kind) {
    return note("read", true, works.read(register, kind), register, kind);
  }

  long move(int from, int to) {
    return note("move", false, works.move(from, to), from, to);
  }

  long take(int wheel, int register) {
    return note("take", false, works.take(wheel, register), wheel, register);
  }

  long work(int what, int a, int b, int to) {
    return note("work", false, works.work(what, a, b, to), what, a, b, to);
  }

  long strip(int lane, int n) {
    long number = note("strip", false, works.strip(lane, n), lane, n);
    if (number == strips.size()) strips.add(new Row(lane, n));
    return number;
  }

  long tear(int strip) {
    long answer = note("tear", false, works.tear(strip), strip);
    if (answer == 1) strips.get(strip).gone = true;
    return answer;
  }

  long keep(int strip, int lane, int i, int register) {
    return note("keep", false, works.keep(strip, lane, i, register), strip, lane, i, register);
  }

  long kept(int strip, int lane, int i) {
    return note("kept", true, works.kept(strip, lane, i), strip, lane, i);
  }

  long rests(int strip, int register) {
    return note("rests", false, works.rests(strip, register), strip, register);
  }

  long pointer(int sort, int wheel) {
    return note("pointer", false, works.pointer(sort, wheel), sort, wheel);
  }

  long stand(int sort, int n) {
    long number = note("stand", false, works.stand(sort, n), sort, n);
    if (number == stands.size()) {
      stands.add(new boolean[n]);
      if (sort == 3) standOfAll = (int) number;
    }
    return number;
  }

  long set(int stand, int i, int pointer) {
    return put(note("set", false, works.set(stand, i, pointer), stand, i, pointer), stand, i, pointer);
  }

  long hang(int stand, int i, int pointer) {
    return put(note("hang", false, works.hang(stand, i, pointer), stand, i, pointer), stand, i, pointer);
  }

  private long put(long answer, int stand, int i, int pointer) {
    if (answer == 1) stands.get(stand)[i] = pointer != OrreryWorks.NONE;
    return answer;
  }

  long show(int stand, int i) {
    return note("show", true, works.show(stand, i), stand, i);
  }

  long all(int stand) {
    return note("all", true, works.all(stand), stand);
  }

  int count(int what) {
    return ask("count", works.count(what), what);
  }

  int often(int refusal) {
    return ask("often", works.often(refusal), refusal);
  }

  int refused() {
    return ask("refused", works.refused());
  }
}
