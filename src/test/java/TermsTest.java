/** The first sentences of "Terms": 512 calls, BITS, KINDS, casts, and what is no number. */
public final class TermsTest {
  private static final Sentences sentences = new Sentences();
  private static final int INT = 0, LONG = 1, FLOAT = 2, DOUBLE = 3;
  private static final int LEAST_INT = Integer.MIN_VALUE, GREATEST_INT = Integer.MAX_VALUE;
  private static final long LEAST_LONG = Long.MIN_VALUE, GREATEST_LONG = Long.MAX_VALUE;
  private static final double ENDLESS = Trial.ENDLESS;

  public static void main(String[] args) {
    calls();
    bits();
    kinds();
    wholesCast();
    floatsCast();
    doublesCastToWholes();
    doublesCastToFloats();
    numbers();
    sentences.end();
  }

  /** Registers 0 .. 3 of kinds 0 .. 3, and 4 .. 7 once more. */
  private static void registers(Trial x) {
    for (int i = 0; i < 8; i++) x.register(i % 4);
  }

  private static void calls() {
    sentences.holds("An object is used for at most 512 calls", x -> {
      x.strip(0, 0);
      while (x.calls() < 511) x.kept(0, 0, 0);
      x.due(510, x.often(OrreryWorks.INDEX));
      x.due(512, x.calls());
    });
    sentences.holds("An object is used for at most 512 calls", x -> {
      x.register(1);
      x.register(1);
      x.load(1, 1, 1L);
      while (x.calls() < 511) x.work(0, 0, 1, 0);
      x.due(508L, x.read(0, 1));
      x.due(512, x.calls());
    });
  }

  private static void held(String sentence, int kind, long... bits) {
    sentences.holds(sentence, x -> {
      registers(x);
      for (long each : bits) {
        x.accepted(1, x.load(kind, kind, each));
        x.accepted(each, x.read(kind, kind));
      }
    });
  }

  private static void bits() {
    held("THE BITS: of an int it", INT, 0L, 1L, -1L, GREATEST_INT, LEAST_INT);
    held("THE BITS: of a long it", LONG, 0L, 1L, -1L, 1L << 32, GREATEST_LONG, LEAST_LONG, Trial.d(Double.NaN));
    held("THE BITS: of a float its 32 bits, as an int", FLOAT, 0L, 1L, 0x007fffffL, 0x00800000L, 0x3f800000L, 0x7f7fffffL,
        0x7f800000L, LEAST_INT, LEAST_INT + 1L, 0xffffffff807fffffL, 0xffffffff80800000L, 0xffffffffbf800000L,
        0xffffffffff7fffffL, 0xffffffffff800000L);
    held("THE BITS: of a double its 64 bits", DOUBLE, 0L, 1L, 0x000fffffffffffffL, 0x0010000000000000L,
        0x3ff0000000000000L, 0x7fefffffffffffffL, 0x7ff0000000000000L, LEAST_LONG, LEAST_LONG + 1L, 0x800fffffffffffffL,
        0x8010000000000000L, 0xbff0000000000000L, 0xffefffffffffffffL, 0xfff0000000000000L);
  }

  private static void kinds() {
    sentences.holds("KINDS 0 int, 1 long, 2 float, 3 double", x -> {
      for (int kind = 0; kind <= 3; kind++) {
        x.accepted(kind, x.register(kind));
        x.accepted(kind, x.strip(kind, 1));
      }
      // Each kind holds something else of this one.
      double much = 0x1.5555555555555p40;
      long[] held = {GREATEST_INT, 1466015503701L, Trial.f(0x1.555556p40f), Trial.d(much)};
      for (int kind = 0; kind <= 3; kind++) {
        x.accepted(1, x.load(kind, 3, Trial.d(much)));
        x.accepted(held[kind], x.read(kind, kind));
      }
      for (int kind = 0; kind <= 3; kind++) {
        x.accepted(held[kind], x.read(DOUBLE, kind));
        x.accepted(1, x.keep(kind, kind, 0, DOUBLE));
        x.accepted(held[kind], x.kept(kind, kind, 0));
        x.accepted(1, x.load(DOUBLE, kind, held[kind]));
        x.accepted(held[kind], x.read(DOUBLE, kind));
        x.load(DOUBLE, DOUBLE, Trial.d(much));
      }
    });
    sentences.holds("register, load, read, strip, keep, kept: of KINDS 0 to 3, no others", x -> {
      registers(x);
      for (int lane = 0; lane <= 3; lane++) x.strip(lane, 1);
      for (int kind : new int[] {-1, 4}) {
        x.refused(OrreryWorks.BAD, x.register(kind));
        x.refused(OrreryWorks.BAD, x.load(0, kind, 0L));
        x.refused(OrreryWorks.BAD, x.read(0, kind));
        x.refused(OrreryWorks.BAD, x.strip(kind, 1));
        x.refused(OrreryWorks.BAD, x.keep(0, kind, 0, 0));
        x.refused(OrreryWorks.BAD, x.kept(0, kind, 0));
      }
    });
  }

  /** Every call that casts a value casts it so. */
  private static void cast(int from, long bits, int to, long want) {
    sentences.holds("TO CAST is as the language does it: " + bits + " of " + from + " to " + to, x -> {
      registers(x);
      x.strip(to, 1);
      x.accepted(1, x.load(to, from, bits));
      x.accepted(want, x.read(to, to));
      x.load(from, from, bits);
      x.accepted(want, x.read(from, to));
      x.move(from, 4 + to);
      x.accepted(want, x.read(4 + to, to));
      x.accepted(1, x.keep(0, to, 0, from));
      x.accepted(want, x.kept(0, to, 0));
      // Less 0, a value is the same, -0.0 too.
      x.register(from);
      x.register(to);
      x.accepted(1, x.work(1, from, 8, 9));
      x.accepted(want, x.read(9, to));
      if (from >= FLOAT) castByWheelAndStrip(x, from, bits, to, want);
    });
  }

  /** Wheels and rests add to 0.0, which makes 0.0 of -0.0; endless values do not get through them. */
  private static void castByWheelAndStrip(Trial x, int from, long bits, int to, long want) {
    double value = from == FLOAT ? Float.intBitsToFloat((int) bits) : Double.longBitsToDouble(bits);
    if (value == 0.0 || Math.abs(value) == ENDLESS) return;
    x.wheel(from, Trial.d(ENDLESS));
    x.accepted(0, x.turn(0, Trial.d(value)));
    x.accepted(1, x.take(0, 4 + to));
    x.accepted(want, x.read(4 + to, to));
    x.strip(from, 2);
    x.keep(1, from, 0, from);
    x.load(from, 3, Trial.d(ENDLESS));
    x.keep(1, from, 1, from);
    x.accepted(1, x.rests(1, 4 + to));
    x.accepted(want, x.read(4 + to, to));
  }

  private static void wholesCast() {
    for (int value : new int[] {LEAST_INT, -1, 0, 1, GREATEST_INT}) {
      cast(INT, value, INT, value);
      cast(INT, value, LONG, value);
      cast(LONG, value, INT, value);
      cast(INT, value, DOUBLE, Trial.d(value));
    }
    cast(INT, 16777216, FLOAT, Trial.f(16777216.0f));
    cast(INT, 16777217, FLOAT, Trial.f(16777216.0f));
    cast(INT, 16777218, FLOAT, Trial.f(16777218.0f));
    cast(INT, 16777219, FLOAT, Trial.f(16777220.0f));
    cast(INT, -16777217, FLOAT, Trial.f(-16777216.0f));
    cast(INT, GREATEST_INT, FLOAT, Trial.f(0x1p31f));
    cast(INT, LEAST_INT, FLOAT, Trial.f(-0x1p31f));
    cast(LONG, 0x80000000L, INT, LEAST_INT);
    cast(LONG, -0x80000001L, INT, GREATEST_INT);
    cast(LONG, 0x100000000L, INT, 0L);
    cast(LONG, 0xffffffffL, INT, -1L);
    cast(LONG, GREATEST_LONG, INT, -1L);
    cast(LONG, LEAST_LONG, INT, 0L);
    cast(LONG, 16777217L, FLOAT, Trial.f(16777216.0f));
    cast(LONG, 0x7fffff8000000000L, FLOAT, Trial.f(0x1.fffffep62f));
    cast(LONG, 0x7fffffbfffffffffL, FLOAT, Trial.f(0x1.fffffep62f));
    cast(LONG, 0x7fffffc000000000L, FLOAT, Trial.f(0x1p63f));
    cast(LONG, GREATEST_LONG, FLOAT, Trial.f(0x1p63f));
    cast(LONG, LEAST_LONG, FLOAT, Trial.f(-0x1p63f));
    cast(LONG, 0x1000001000000001L, FLOAT, Trial.f(0x1.000002p60f));
    cast(LONG, 0x20000000000000L, DOUBLE, Trial.d(0x1p53));
    cast(LONG, 0x20000000000001L, DOUBLE, Trial.d(0x1p53));
    cast(LONG, 0x20000000000002L, DOUBLE, Trial.d(0x1.0000000000001p53));
    cast(LONG, 0x20000000000003L, DOUBLE, Trial.d(0x1.0000000000002p53));
    cast(LONG, 0x7ffffffffffffdffL, DOUBLE, Trial.d(0x1.fffffffffffffp62));
    cast(LONG, 0x7ffffffffffffe00L, DOUBLE, Trial.d(0x1p63));
    cast(LONG, GREATEST_LONG, DOUBLE, Trial.d(0x1p63));
    cast(LONG, LEAST_LONG, DOUBLE, Trial.d(-0x1p63));
    cast(LONG, GREATEST_LONG, LONG, GREATEST_LONG);
  }

  private static void floatsCast() {
    float endless = Float.POSITIVE_INFINITY;
    float[] values = {0.0f, -0.0f, 0x1p-149f, -0x1p-149f, 0.99999994f, -0.99999994f, 0x1.fffffep30f, 0x1p31f, -0x1p31f,
        -0x1.000002p31f, 0x1.fffffep62f, 0x1p63f, -0x1p63f, -0x1.000002p63f, Float.MAX_VALUE, endless, -endless};
    int[] ints = {0, 0, 0, 0, 0, 0, 2147483520, GREATEST_INT, LEAST_INT, LEAST_INT, GREATEST_INT, GREATEST_INT, LEAST_INT,
        LEAST_INT, GREATEST_INT, GREATEST_INT, LEAST_INT};
    long[] longs = {0, 0, 0, 0, 0, 0, 2147483520L, 2147483648L, -2147483648L, -2147483904L, 9223371487098961920L,
        GREATEST_LONG, LEAST_LONG, LEAST_LONG, GREATEST_LONG, GREATEST_LONG, LEAST_LONG};
    for (int i = 0; i < values.length; i++) {
      cast(FLOAT, Trial.f(values[i]), INT, ints[i]);
      cast(FLOAT, Trial.f(values[i]), LONG, longs[i]);
      cast(FLOAT, Trial.f(values[i]), FLOAT, Trial.f(values[i]));
      cast(FLOAT, Trial.f(values[i]), DOUBLE, Trial.d(values[i]));
    }
    cast(FLOAT, 1L, DOUBLE, 0x36a0000000000000L);
    cast(FLOAT, 0x7f7fffffL, DOUBLE, 0x47efffffe0000000L);
    cast(FLOAT, 0x7f800000L, DOUBLE, 0x7ff0000000000000L);
    cast(FLOAT, LEAST_INT, DOUBLE, LEAST_LONG);
  }

  private static void doublesCastToWholes() {
    double[] values = {0.0, -0.0, Double.MIN_VALUE, -Double.MIN_VALUE, 0.9999999999999999, -0.9999999999999999, 1.0, -1.0,
        1.9999999999999998, 2147483647.0, 2147483647.9999998, 2147483648.0, -2147483648.0, -2147483648.9999995,
        -2147483649.0, 4294967296.0, 4294967297.0, 0x1.fffffffffffffp62, 0x1p63, -0x1p63, -0x1.0000000000001p63, 0x1p64,
        Double.MAX_VALUE, -Double.MAX_VALUE, ENDLESS, -ENDLESS};
    int[] ints = {0, 0, 0, 0, 0, 0, 1, -1, 1, GREATEST_INT, GREATEST_INT, GREATEST_INT, LEAST_INT, LEAST_INT, LEAST_INT,
        GREATEST_INT, GREATEST_INT, GREATEST_INT, GREATEST_INT, LEAST_INT, LEAST_INT, GREATEST_INT, GREATEST_INT, LEAST_INT,
        GREATEST_INT, LEAST_INT};
    long[] longs = {0, 0, 0, 0, 0, 0, 1, -1, 1, 2147483647L, 2147483647L, 2147483648L, -2147483648L, -2147483648L,
        -2147483649L, 4294967296L, 4294967297L, 9223372036854774784L, GREATEST_LONG, LEAST_LONG, LEAST_LONG, GREATEST_LONG,
        GREATEST_LONG, LEAST_LONG, GREATEST_LONG, LEAST_LONG};
    for (int i = 0; i < values.length; i++) {
      cast(DOUBLE, Trial.d(values[i]), INT, ints[i]);
      cast(DOUBLE, Trial.d(values[i]), LONG, longs[i]);
      cast(DOUBLE, Trial.d(values[i]), DOUBLE, Trial.d(values[i]));
    }
  }

  private static void doublesCastToFloats() {
    double[] values = {0.0, 0x1p-1074, 0x1.fffffffffffffp-151, 0x1p-150, 0x1.0000000000001p-150, 0x1p-149,
        0x1.7ffffffffffffp-149, 0x1.8p-149, 0x1.8000000000001p-149, 0x1.fffffcp-127, 0x1.fffffdfffffffp-127, 0x1.fffffep-127,
        0x1p-126, 1.0, 0x1.000001p0, 0x1.0000010000001p0, 0x1.000002p0, 0x1.000003p0, 0.1, 0x1.fffffep127,
        0x1.fffffefffffffp127, 0x1.ffffffp127, 0x1p128, Double.MAX_VALUE, ENDLESS};
    float[] floats = {0.0f, 0.0f, 0.0f, 0.0f, 0x1p-149f, 0x1p-149f, 0x1p-149f, 0x1p-148f, 0x1p-148f, 0x1.fffffcp-127f,
        0x1.fffffcp-127f, 0x1p-126f, 0x1p-126f, 1.0f, 1.0f, 0x1.000002p0f, 0x1.000002p0f, 0x1.000004p0f, 0.1f,
        0x1.fffffep127f, 0x1.fffffep127f, Float.POSITIVE_INFINITY, Float.POSITIVE_INFINITY, Float.POSITIVE_INFINITY,
        Float.POSITIVE_INFINITY};
    for (int i = 0; i < values.length; i++) {
      cast(DOUBLE, Trial.d(values[i]), FLOAT, Trial.f(floats[i]));
      cast(DOUBLE, Trial.d(-values[i]), FLOAT, Trial.f(-floats[i]));
    }
  }

  /** The bits beside those that are BAD; RefusalsTest has the others. */
  private static void numbers() {
    long[] doubles = {0x7fefffffffffffffL, 0x7ff0000000000000L, 0xffefffffffffffffL, 0xfff0000000000000L};
    sentences.holds("No value is ever what is no number: an endless one is one", x -> {
      registers(x);
      for (int i = 0; i < doubles.length; i++) {
        x.accepted(i, x.wheel(3, doubles[i]));
        x.accepted(doubles[i], x.wheelOf(i, 1));
        x.accepted(1, x.load(DOUBLE, DOUBLE, doubles[i]));
        x.accepted(doubles[i], x.read(DOUBLE, DOUBLE));
      }
      x.accepted(1, x.turn(0, doubles[0]));
      x.refused(OrreryWorks.SPUN, x.turn(0, doubles[1]));
      x.accepted(-1, x.turn(0, doubles[2]));
      x.refused(OrreryWorks.SPUN, x.turn(0, doubles[3]));
    });
    long[] floats = {0x7f7fffffL, 0x7f800000L, 0xffffffffff7fffffL, 0xffffffffff800000L};
    sentences.holds("of float the lowest 32: what stands above them is no matter", x -> {
      registers(x);
      for (long bits : floats) {
        for (long above : new long[] {0L, 1L, 0x7ff80000L, 0x7fffffffL, -1L, LEAST_INT}) {
          x.accepted(1, x.load(FLOAT, FLOAT, above << 32 | bits & 0xffffffffL));
          x.accepted(bits, x.read(FLOAT, FLOAT));
        }
      }
    });
    sentences.holds("of int the lowest 32: what stands above them is no matter", x -> {
      registers(x);
      for (int bits : new int[] {0, 1, -1, GREATEST_INT, LEAST_INT, 0x7fc00000}) {
        for (long above : new long[] {0L, 1L, 0x7ff80000L, 0x7fffffffL, -1L, LEAST_INT}) {
          x.accepted(1, x.load(LONG, INT, above << 32 | bits & 0xffffffffL));
          x.accepted(bits, x.read(LONG, LONG));
        }
      }
    });
    sentences.holds("BITS of what is no number are BAD: of an int, a long there are none", x -> {
      registers(x);
      for (long bits : new long[] {0x7f800001L, 0x7fc00000L, 0xff800001L, -1L, 0x7ff0000000000001L, 0xfff8000000000000L}) {
        x.accepted(1, x.load(LONG, LONG, bits));
        x.accepted(bits, x.read(LONG, LONG));
        x.accepted(1, x.load(INT, INT, bits));
        x.accepted((int) bits, x.read(INT, INT));
      }
    });
  }
}
