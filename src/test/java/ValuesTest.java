import java.util.Random;

/** Casts and workings of many values, of every two kinds, against the language's own; seeds are fixed. */
public final class ValuesTest {
  private static final int PAIRS = 400000;
  private static final int PAIRS_AN_OBJECT = 15;
  private static int wrong = 0;

  public static void main(String[] args) {
    Random random = new Random(20261118L);
    OrreryWorks x = null;
    for (int pair = 0; pair < PAIRS && wrong < 20; pair++) {
      if (pair % PAIRS_AN_OBJECT == 0) x = new OrreryWorks();
      Number a = value(random);
      check(x, pair % PAIRS_AN_OBJECT, a, random.nextInt(5) == 0 ? like(a, random) : value(random));
    }
    System.out.println(wrong == 0 ? "all values are as the language's" : wrong + " values went wrong");
    if (wrong != 0) System.exit(1);
  }

  private static void due(String call, long got, long want) {
    if (got == want) return;
    wrong++;
    System.out.println(call + " answered " + got + ", due is " + want);
  }

  /** Registers 0 .. 7 are of kinds 0 .. 3 twice, and 8 .. 11 once more. */
  private static void check(OrreryWorks x, int pair, Number a, Number b) {
    if (pair == 0) {
      for (int i = 0; i < 12; i++) x.register(i % 4);
    }
    int first = Language.kindOf(a);
    int second = 4 + Language.kindOf(b);
    due("load " + a, x.load(first, first, Language.bits(a)), 1);
    due("load " + b, x.load(second, second - 4, Language.bits(b)), 1);
    for (int kind = 0; kind <= 3; kind++) {
      due(a + " as " + kind, x.read(first, kind), Language.bits(Language.cast(a, kind)));
      Number back = Language.cast(Language.cast(a, kind), first);
      due(a + " to " + kind, x.move(first, 8 + kind), Language.bits(back) == Language.bits(a) ? 1 : 0);
    }
    for (int what = 0; what <= 4; what++) {
      Number came = worked(what, Math.max(first, second - 4), a, b);
      String call = a + " " + what + " " + b;
      if (came == null) {
        due(call, x.work(what, first, second, 11), first > 1 || second > 5 ? OrreryWorks.VOID : OrreryWorks.ZERO);
      } else {
        int to = 8 + what % 4;
        due(call, x.work(what, first, second, to), 1);
        due(call + ", read", x.read(to, to - 8), Language.bits(Language.cast(came, to - 8)));
        int same = 8 + Math.max(first, second - 4);
        x.work(what, first, second, same);
        due(call + ", read whole", x.read(same, same - 8), Language.bits(came));
      }
    }
  }

  private static Number value(Random random) {
    switch (random.nextInt(13)) {
      case 0: return random.nextInt() >> random.nextInt(32);
      case 1: return random.nextLong() >> random.nextInt(64);
      case 2: return number(Float.intBitsToFloat(random.nextInt()));
      case 3: return number(Double.longBitsToDouble(random.nextLong()));
      case 4: return (float) (random.nextInt(4000) - 2000) / (1 << random.nextInt(12));
      case 5: return (double) (random.nextInt(4000) - 2000) / (1 << random.nextInt(12));
      case 6: return Float.intBitsToFloat(random.nextInt() & 0x81ffffff);
      case 7: return Double.longBitsToDouble(random.nextLong() & 0x801fffffffffffffL);
      // The least ones: a rest by them goes through small whole numbers, 0 and 1 among them.
      case 8: return Float.intBitsToFloat(random.nextInt() & 0x8000003f);
      case 9: return Double.longBitsToDouble(random.nextLong() & 0x800000000000003fL);
      case 10: return longAmidFloats(random);
      case 11: return doubleAmidFloats(random);
      default: return atAnEnd(random);
    }
  }

  /** By chance alone, hardly a long or a double comes where the cast to a float rounds the other way, or ties. */
  private static Number longAmidFloats(Random random) {
    int shift = 1 + random.nextInt(39);
    long whole = (long) (0x800000 | random.nextInt(0x800000)) << shift;
    long amid = whole + (1L << shift - 1) + random.nextInt(3) - 1;
    return random.nextBoolean() ? amid : -amid;
  }

  private static Number doubleAmidFloats(Random random) {
    int least = random.nextInt() & (random.nextInt(4) == 0 ? 0xffffff : 0x7fffffff);
    int bits = random.nextInt(16) == 0 ? 0x7f7fffff : Math.min(least, 0x7f7fffff);
    double below = Float.intBitsToFloat(bits);
    // What would come after the greatest float, were there one.
    double above = bits == 0x7f7fffff ? 0x1p128 : Float.intBitsToFloat(bits + 1);
    double amid = nudged((below + above) / 2, random);
    return random.nextBoolean() ? amid : -amid;
  }

  private static Number atAnEnd(Random random) {
    double[] ends = {Integer.MIN_VALUE, Integer.MIN_VALUE - 1.0, Integer.MAX_VALUE, 0x1p31, 0x1p32, -0x1p63, 0x1p63, 0x1p64,
      0x1p53, Double.MAX_VALUE, Double.MIN_NORMAL, Double.MIN_VALUE, Float.MAX_VALUE, Float.MIN_NORMAL, Float.MIN_VALUE};
    double end = nudged(ends[random.nextInt(ends.length)], random);
    return random.nextInt(4) == 0 ? (Number) (float) end : (Number) end;
  }

  private static double nudged(double value, Random random) {
    int way = random.nextInt(3);
    return way == 0 ? value : way == 1 ? Math.nextUp(value) : Math.nextDown(value);
  }

  /** A value whose quotient with the first one is whole, or nearly so: rests are 0 or very small there, or nearly all. */
  private static Number like(Number a, Random random) {
    double by = (random.nextInt(8) + 1) * Math.scalb(1.0, random.nextInt(5) * 31);
    double near = nudged(random.nextBoolean() ? a.doubleValue() / by : -a.doubleValue(), random);
    return a instanceof Float ? (Number) (float) near : number(near);
  }

  private static Number number(float value) {
    return Float.isNaN(value) ? Float.POSITIVE_INFINITY : value;
  }

  private static Number number(double value) {
    return Double.isNaN(value) ? Double.NEGATIVE_INFINITY : value;
  }

  /** Null where nothing comes of it. */
  private static Number worked(int what, int kind, Number a, Number b) {
    if (kind <= 1 && what >= 3 && b.longValue() == 0L) return null;
    Number came = Language.worked(what, kind, a, b);
    return Double.isNaN(came.doubleValue()) ? null : came;
  }
}
