import java.util.ArrayList;
import java.util.Arrays;
import java.util.List;
import java.util.Random;

/**
 * Long runs of calls, made from fixed seeds, on the program and on a model of the document that lets the Java machine
 * itself do the work: its casts, its rest, its arrays and what it throws. Every answer, and refused() after every
 * call, must be the same.
 */
public final class MachineTest {
  private static final int RUNS = 12000;
  /** Each is followed by refused(): 512 calls in all, for what later ones answer is free. */
  private static final int CALLS = 256;

  public static void main(String[] args) {
    int wrong = 0;
    int[] seen = new int[11];
    for (int run = 0; run < RUNS && wrong < 10; run++) wrong += new Run(run).go(seen);
    for (int refusal = 2; refusal <= 10; refusal++) {
      if (seen[refusal] == 0) {
        wrong++;
        System.out.println("no run came to the refusal " + -refusal);
      }
    }
    System.out.println(wrong == 0 ? "all runs are as the machine's" : wrong + " runs went wrong");
    if (wrong != 0) System.exit(1);
  }

  /** One run: a program, a model, and calls for both. */
  private static final class Run {
    private final int seed;
    private final Random random;
    private final OrreryWorks program = new OrreryWorks();
    private final Model model = new Model();

    Run(int seed) {
      this.seed = seed;
      this.random = new Random(seed * 7919L + 17L);
    }

    int go(int[] seen) {
      for (int call = 0; call < CALLS; call++) {
        long[] a = arguments(call < 40 ? chooseEarly() : random.nextInt(23));
        long got = onProgram(a);
        long due = onModel(a);
        int refused = program.refused();
        if (got != due || refused != model.refused()) {
          System.out.println("seed " + seed + ", call " + call + " " + Arrays.toString(a) + " answered " + got
              + " (refused " + refused + "), due is " + due + " (refused " + model.refused() + ")");
          return 1;
        }
        if (a[0] < 20) seen[-model.refused()]++;
      }
      return 0;
    }

    /** Something must be made before most calls come to anything. */
    private int chooseEarly() {
      int[] makers = {0, 3, 3, 9, 14, 15};
      return makers[random.nextInt(makers.length)];
    }

    private long[] arguments(int method) {
      switch (method) {
        case 0: return new long[] {0, near(2, 2), doubleBits()};
        case 1: return new long[] {1, near(0, 10), doubleBits()};
        case 2: return new long[] {2, near(0, 10), near(0, 2)};
        case 3: return new long[] {3, near(0, 4)};
        case 4: return loadArguments();
        case 5: return new long[] {5, near(0, 16), near(0, 4)};
        case 6: return new long[] {6, near(0, 16), near(0, 16)};
        case 7: return new long[] {7, near(0, 10), near(0, 16)};
        case 8: return new long[] {8, near(0, 5), near(0, 16), near(0, 16), near(0, 16)};
        case 9: return new long[] {9, near(0, 4), near(0, 17)};
        case 10: return random.nextInt(12) == 0 ? new long[] {10, near(0, 8)} : loadArguments();
        case 11: return new long[] {11, near(0, 8), near(0, 4), near(0, 16), near(0, 16)};
        case 12: return new long[] {12, near(0, 8), near(0, 4), near(0, 16)};
        case 13: return new long[] {13, near(0, 8), near(0, 16)};
        case 14: return new long[] {14, near(0, 4), near(0, 10)};
        case 15: return new long[] {15, near(0, 4), near(1, 6)};
        case 16: return new long[] {16, near(0, 8), near(0, 6), near(-1, 13)};
        case 17: return new long[] {17, near(0, 8), near(0, 6), near(-1, 13)};
        case 18: return new long[] {18, near(0, 8), near(0, 6)};
        case 19: return new long[] {19, near(0, 8)};
        case 20: return new long[] {20, near(0, 5)};
        case 21: return new long[] {21, near(-11, 12)};
        default: return new long[] {22};
      }
    }

    private long[] loadArguments() {
      int kind = (int) near(0, 4);
      long bits = kind == 2 ? floatBits() : kind == 3 ? doubleBits() : wholeBits();
      return new long[] {4, near(0, 16), kind, bits};
    }

    /** A number of a range, now and then just beyond it, or far. */
    private long near(int low, int n) {
      int luck = random.nextInt(60);
      if (luck == 0) return low - 1;
      if (luck == 1) return low + n;
      if (luck == 2) return random.nextInt();
      return low + random.nextInt(n);
    }

    private long wholeBits() {
      long[] edges = {0, 1, -1, 2, 3, -7, 1000, Integer.MAX_VALUE, Integer.MIN_VALUE, Long.MAX_VALUE, Long.MIN_VALUE,
          16777217, -16777219, 9007199254740993L, 4294967296L, (1L << 40) - 1, 0x7fffffbfffffffffL, 0x7fffff4000000001L};
      switch (random.nextInt(4)) {
        case 0: return edges[random.nextInt(edges.length)];
        case 1: return random.nextInt(40) - 20;
        case 2: return random.nextLong() >> random.nextInt(64);
        default: return random.nextLong();
      }
    }

    private long floatBits() {
      float[] edges = {0.0f, -0.0f, 1.0f, -1.0f, 0.1f, 7.5f, Float.MAX_VALUE, -Float.MAX_VALUE, Float.MIN_VALUE,
          -Float.MIN_VALUE, Float.MIN_NORMAL, Float.POSITIVE_INFINITY, Float.NEGATIVE_INFINITY, Float.NaN, 2147483648.0f,
          9.223372E18f, 16777216.0f};
      long high = (long) random.nextInt() << 32;
      switch (random.nextInt(5)) {
        case 0: return high | Float.floatToRawIntBits(edges[random.nextInt(edges.length)]) & 0xffffffffL;
        case 1: return Float.floatToRawIntBits((random.nextInt(200) - 100) / 4.0f);
        case 2: return Float.floatToRawIntBits((float) (random.nextGaussian() * 100.0));
        case 3: return random.nextInt() & 0x807fffff;
        default: return random.nextLong();
      }
    }

    private long doubleBits() {
      double[] edges = {0.0, -0.0, 1.0, -1.0, 0.1, 3.5, Double.MAX_VALUE, -Double.MAX_VALUE, Double.MIN_VALUE,
          -Double.MIN_VALUE, Double.MIN_NORMAL, Double.POSITIVE_INFINITY, Double.NEGATIVE_INFINITY, Double.NaN,
          2147483648.0, -2147483649.0, 9.223372036854775807E18, Float.MAX_VALUE, 3.4028235677973366E38,
          3.4028235677973362E38, Float.MIN_VALUE, 7.006492321624085E-46, 7.006492321624086E-46, Float.MIN_NORMAL, 1e16};
      switch (random.nextInt(6)) {
        case 0: return Double.doubleToRawLongBits(edges[random.nextInt(edges.length)]);
        case 1: return Double.doubleToRawLongBits((random.nextInt(200) - 100) / 4.0);
        case 2: return Double.doubleToRawLongBits(random.nextGaussian() * 100.0);
        case 3: return random.nextLong() & 0x800fffffffffffffL;
        case 4: return Double.doubleToRawLongBits((double) Float.intBitsToFloat(random.nextInt()));
        default: return random.nextLong();
      }
    }

    private long onProgram(long[] a) {
      int p = a.length > 1 ? (int) a[1] : 0;
      int q = a.length > 2 ? (int) a[2] : 0;
      int r = a.length > 3 ? (int) a[3] : 0;
      int s = a.length > 4 ? (int) a[4] : 0;
      switch ((int) a[0]) {
        case 0: return program.wheel(p, a[2]);
        case 1: return program.turn(p, a[2]);
        case 2: return program.wheelOf(p, q);
        case 3: return program.register(p);
        case 4: return program.load(p, q, a[3]);
        case 5: return program.read(p, q);
        case 6: return program.move(p, q);
        case 7: return program.take(p, q);
        case 8: return program.work(p, q, r, s);
        case 9: return program.strip(p, q);
        case 10: return program.tear(p);
        case 11: return program.keep(p, q, r, s);
        case 12: return program.kept(p, q, r);
        case 13: return program.rests(p, q);
        case 14: return program.pointer(p, q);
        case 15: return program.stand(p, q);
        case 16: return program.set(p, q, r);
        case 17: return program.hang(p, q, r);
        case 18: return program.show(p, q);
        case 19: return program.all(p);
        case 20: return program.count(p);
        case 21: return program.often(p);
        default: return program.refused();
      }
    }

    private long onModel(long[] a) {
      int p = a.length > 1 ? (int) a[1] : 0;
      switch ((int) a[0]) {
        case 20: return model.count(p);
        case 21: return model.often(p);
        case 22: return model.refused();
        default: return model.call(a);
      }
    }
  }

  /** What a call of the model ends with when it is refused. */
  private static final class Refusal extends RuntimeException {
    private static final long serialVersionUID = 1L;
    final int why;

    Refusal(int why) {
      super(null, null, false, false);
      this.why = why;
    }
  }

  private static final class Wheel {
    boolean floats;
    float floatTurn;
    float floatPosition;
    double doubleTurn;
    double doublePosition;

    Number position() {
      if (floats) return floatPosition;
      return doublePosition;
    }

    Number turn() {
      if (floats) return floatTurn;
      return doubleTurn;
    }
  }

  private interface Showing {
    long shown();
  }

  private abstract static class Hand implements Showing {
    final Wheel wheel;

    Hand(Wheel wheel) {
      this.wheel = wheel;
    }
  }

  private static final class Coarse extends Hand {
    Coarse(Wheel wheel) {
      super(wheel);
    }

    @Override public long shown() {
      return wheel.floats ? (int) wheel.floatPosition : (int) wheel.doublePosition;
    }
  }

  private static class Fine extends Hand {
    Fine(Wheel wheel) {
      super(wheel);
    }

    @Override public long shown() {
      return (long) (wheel.position().doubleValue() * 1000.0);
    }
  }

  private static final class Vernier extends Fine {
    Vernier(Wheel wheel) {
      super(wheel);
    }

    @Override public long shown() {
      return Float.floatToIntBits((float) super.shown());
    }
  }

  private static final class Lamp implements Showing {
    private final Wheel wheel;

    Lamp(Wheel wheel) {
      this.wheel = wheel;
    }

    @Override public long shown() {
      return Math.copySign(1.0, wheel.position().doubleValue()) < 0.0 ? 1 : 0;
    }
  }

  /** The document, word by word, done by the machine. Values are boxed: Integer, Long, Float, Double. */
  private static final class Model {
    private final List<Wheel> wheels = new ArrayList<>();
    private final List<Number> registers = new ArrayList<>();
    private final List<Object> strips = new ArrayList<>();
    private final List<Showing> pointers = new ArrayList<>();
    private final List<Showing[]> stands = new ArrayList<>();
    private final int[] refusals = new int[11];
    private int latest = 0;

    int refused() {
      return latest;
    }

    int often(int refusal) {
      return refusal <= -3 && refusal >= -10 ? refusals[-refusal] : 0;
    }

    int count(int what) {
      int[] counts = {wheels.size(), registers.size(), strips.size(), pointers.size(), stands.size()};
      return what >= 0 && what < counts.length ? counts[what] : -2;
    }

    long call(long[] a) {
      int method = (int) a[0];
      boolean anyNumber = method == 1 || method == 2 || method == 5 || method == 12 || method == 18 || method == 19;
      try {
        long answer = answer(method, a);
        latest = 0;
        return answer;
      } catch (Refusal r) {
        latest = r.why;
      } catch (ArrayStoreException e) {
        latest = -9;
      } catch (ArrayIndexOutOfBoundsException e) {
        latest = -8;
      } catch (ClassCastException e) {
        latest = -7;
      } catch (NullPointerException e) {
        latest = -10;
      } catch (ArithmeticException e) {
        latest = -6;
      }
      if (latest != -2) refusals[-latest]++;
      return anyNumber ? 0 : latest;
    }

    private long answer(int method, long[] a) {
      switch (method) {
        case 0: return wheel((int) a[1], a[2]);
        case 1: return turn(a[1], a[2]);
        case 2: return wheelOf(a[1], a[2]);
        case 3: return register(a[1]);
        case 4: return load(a[1], a[2], a[3]);
        case 5: return read(a[1], a[2]);
        case 6: return move(a[1], a[2]);
        case 7: return take(a[1], a[2]);
        case 8: return work(a[1], a[2], a[3], a[4]);
        case 9: return strip(a[1], a[2]);
        case 10: return tear(a[1]);
        case 11: return keep(a[1], a[2], (int) a[3], a[4]);
        case 12: return kept(a[1], a[2], (int) a[3]);
        case 13: return rests(a[1], a[2]);
        case 14: return pointer(a[1], a[2]);
        case 15: return stand(a[1], a[2]);
        case 16: return put(a[1], (int) a[2], a[3], true);
        case 17: return put(a[1], (int) a[2], a[3], false);
        case 18: return stands.get(at(a[1], stands))[(int) a[2]].shown();
        default: return all(a[1]);
      }
    }

    private static void need(boolean right, int why) {
      if (!right) throw new Refusal(why);
    }

    private static int at(long number, List<?> list) {
      need(number >= 0 && number < list.size(), -2);
      return (int) number;
    }

    private static int kind(long kind) {
      need(kind >= 0 && kind <= 3, -2);
      return (int) kind;
    }

    private static double told(long bits) {
      double value = Double.longBitsToDouble(bits);
      need(!Double.isNaN(value), -2);
      return value;
    }

    private long wheel(int kind, long turn) {
      need(kind == 2 || kind == 3, -2);
      Wheel wheel = new Wheel();
      wheel.floats = kind == 2;
      wheel.doubleTurn = told(turn);
      wheel.floatTurn = (float) wheel.doubleTurn;
      need(wheel.turn().doubleValue() != 0.0, -2);
      need(wheels.size() < 10, -3);
      wheels.add(wheel);
      return wheels.size() - 1;
    }

    private long turn(long number, long by) {
      Wheel wheel = wheels.get(at(number, wheels));
      double step = told(by);
      if (wheel.floats) {
        float sum = wheel.floatPosition + (float) step;
        need(!Float.isInfinite(sum), -4);
        wheel.floatPosition = sum % wheel.floatTurn;
        return (int) (sum / wheel.floatTurn);
      }
      double sum = wheel.doublePosition + step;
      need(!Double.isInfinite(sum), -4);
      wheel.doublePosition = sum % wheel.doubleTurn;
      return (int) (sum / wheel.doubleTurn);
    }

    private long wheelOf(long number, long what) {
      Wheel wheel = wheels.get(at(number, wheels));
      need(what == 0 || what == 1, -2);
      return Language.bits(what == 0 ? wheel.position() : wheel.turn());
    }

    private long register(long kind) {
      Number zero = Language.cast(0, kind(kind));
      need(registers.size() < 16, -3);
      registers.add(zero);
      return registers.size() - 1;
    }

    private void hold(int register, Number value) {
      registers.set(register, Language.cast(value, Language.kindOf(registers.get(register))));
    }

    private long load(long register, long kind, long bits) {
      int to = at(register, registers);
      Number value;
      switch (kind(kind)) {
        case 0: value = (int) bits; break;
        case 1: value = bits; break;
        case 2: value = Float.intBitsToFloat((int) bits); break;
        default: value = Double.longBitsToDouble(bits);
      }
      need(!Double.isNaN(value.doubleValue()), -2);
      hold(to, value);
      return 1;
    }

    private long read(long register, long kind) {
      return Language.bits(Language.cast(registers.get(at(register, registers)), kind(kind)));
    }

    private long move(long from, long to) {
      Number value = registers.get(at(from, registers));
      int target = at(to, registers);
      hold(target, value);
      return Language.bits(Language.cast(registers.get(target), Language.kindOf(value))) == Language.bits(value) ? 1 : 0;
    }

    private long take(long wheel, long register) {
      Number position = wheels.get(at(wheel, wheels)).position();
      hold(at(register, registers), position);
      return 1;
    }

    private long work(long what, long a, long b, long to) {
      need(what >= 0 && what <= 4, -2);
      Number x = registers.get(at(a, registers));
      Number y = registers.get(at(b, registers));
      int target = at(to, registers);
      int kind = Math.max(Language.kindOf(x), Language.kindOf(y));
      Number came = Language.worked((int) what, kind, x, y);
      need(!Double.isNaN(came.doubleValue()), -5);
      hold(target, came);
      return 1;
    }

    private long strip(long lane, long n) {
      int kind = kind(lane);
      need(n >= 0 && n <= 16, -2);
      need(strips.size() < 8, -3);
      int places = (int) n;
      strips.add(kind == 0 ? new int[places] : kind == 1 ? new long[places] : kind == 2 ? new float[places]
          : (Object) new double[places]);
      return strips.size() - 1;
    }

    private long tear(long strip) {
      return strips.set(at(strip, strips), null) == null ? 0 : 1;
    }

    private long keep(long strip, long lane, int i, long register) {
      Object row = strips.get(at(strip, strips));
      int kind = kind(lane);
      Number value = registers.get(at(register, registers));
      switch (kind) {
        case 0: ((int[]) row)[i] = value.intValue(); break;
        case 1: ((long[]) row)[i] = value.longValue(); break;
        case 2: ((float[]) row)[i] = value.floatValue(); break;
        default: ((double[]) row)[i] = value.doubleValue();
      }
      return 1;
    }

    private long kept(long strip, long lane, int i) {
      Object row = strips.get(at(strip, strips));
      switch (kind(lane)) {
        case 0: return Language.bits(((int[]) row)[i]);
        case 1: return Language.bits(((long[]) row)[i]);
        case 2: return Language.bits(((float[]) row)[i]);
        default: return Language.bits(((double[]) row)[i]);
      }
    }

    private long rests(long strip, long register) {
      Object row = strips.get(at(strip, strips));
      int target = at(register, registers);
      int found = 0;
      if (row instanceof float[]) {
        float[] places = (float[]) row;
        float sum = 0.0f;
        for (int i = 0; i < places.length - 1; i++) {
          float rest = places[i] % places[i + 1];
          if (!Float.isNaN(rest)) {
            sum += rest;
            found++;
          }
        }
        hold(target, sum);
        return found;
      }
      double[] places = (double[]) row;
      double sum = 0.0;
      for (int i = 0; i < places.length - 1; i++) {
        double rest = places[i] % places[i + 1];
        if (!Double.isNaN(rest)) {
          sum += rest;
          found++;
        }
      }
      hold(target, sum);
      return found;
    }

    private long pointer(long sort, long wheel) {
      need(sort >= 0 && sort <= 3, -2);
      Wheel shown = wheels.get(at(wheel, wheels));
      need(pointers.size() < 12, -3);
      pointers.add(sort == 0 ? new Coarse(shown) : sort == 1 ? new Fine(shown) : sort == 2 ? new Vernier(shown)
          : new Lamp(shown));
      return pointers.size() - 1;
    }

    private long stand(long sort, long n) {
      need(sort >= 0 && sort <= 3 && n >= 1 && n <= 6, -2);
      need(stands.size() < 8, -3);
      int places = (int) n;
      stands.add(sort == 0 ? new Hand[places] : sort == 1 ? new Fine[places] : sort == 2 ? new Vernier[places]
          : new Showing[places]);
      return stands.size() - 1;
    }

    private long put(long stand, int i, long pointer, boolean asHands) {
      Showing[] row = stands.get(at(stand, stands));
      Showing put = pointer == -1 ? null : pointers.get(at(pointer, pointers));
      if (asHands) {
        ((Hand[]) row)[i] = (Hand) put;
      } else {
        row[i] = put;
      }
      return 1;
    }

    private long all(long stand) {
      long sum = 0;
      for (Showing there : stands.get(at(stand, stands))) {
        if (there != null) sum += there.shown();
      }
      return sum;
    }
  }
}
