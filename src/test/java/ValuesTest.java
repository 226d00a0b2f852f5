import java.util.Random;

/** Casts and workings of many values, of every two kinds, against the language's own; seeds are fixed. */
public final class ValuesTest {
  private static final int PAIRS = 400000;
  private static final int PAIRS_AN_OBJECT = 15;
  private static int wrong = 0;

  public static void main(String[] args) {
    Random random = new Random(20261118L);
    OrreryWorks x = null;
    for (int pair = 0; pair < PAIRS && wrong < 20; pair++) {
      if (pair % PAIRS_AN_OBJECT == 0) x = new OrreryWorks();
      check(x, pair % PAIRS_AN_OBJECT, value(random), value(random));
    }
    System.out.println(wrong == 0 ? "all values are as the language's" : wrong + " values went wrong");
    if (wrong != 0) System.exit(1);
  }

  private static void due(String call, long got, long want) {
    if (got == want) return;
    wrong++;
    System.out.println(call + " answered " + got + ", due is " + want);
  }

  /** Registers 0 .. 7 are of kinds 0 .. 3 twice, and 8 .. 11 once more. */
  private static void check(OrreryWorks x, int pair, Number a, Number b) {
    if (pair == 0) {
      for (int i = 0; i < 12; i++) x.register(i % 4);
    }
    int first = Language.kindOf(a);
    int second = 4 + Language.kindOf(b);
    due("load " + a, x.load(first, first, Language.bits(a)), 1);
    due("load " + b, x.load(second, second - 4, Language.bits(b)), 1);
    for (int kind = 0; kind <= 3; kind++) {
      due(a + " as " + kind, x.read(first, kind), Language.bits(Language.cast(a, kind)));
      Number back = Language.cast(Language.cast(a, kind), first);
      due(a + " to " + kind, x.move(first, 8 + kind), Language.bits(back) == Language.bits(a) ? 1 : 0);
    }
    for (int what = 0; what <= 4; what++) {
      Number came = worked(what, Math.max(first, second - 4), a, b);
      String call = a + " " + what + " " + b;
      if (came == null) {
        due(call, x.work(what, first, second, 11), first > 1 || second > 5 ? OrreryWorks.VOID : OrreryWorks.ZERO);
      } else {
        int to = 8 + what % 4;
        due(call, x.work(what, first, second, to), 1);
        due(call + ", read", x.read(to, to - 8), Language.bits(Language.cast(came, to - 8)));
        int same = 8 + Math.max(first, second - 4);
        x.work(what, first, second, same);
        due(call + ", read whole", x.read(same, same - 8), Language.bits(came));
      }
    }
  }

  private static Number value(Random random) {
    switch (random.nextInt(10)) {
      case 0: return random.nextInt() >> random.nextInt(32);
      case 1: return random.nextLong() >> random.nextInt(64);
      case 2: return number(Float.intBitsToFloat(random.nextInt()));
      case 3: return number(Double.longBitsToDouble(random.nextLong()));
      case 4: return (float) (random.nextInt(4000) - 2000) / (1 << random.nextInt(12));
      case 5: return (double) (random.nextInt(4000) - 2000) / (1 << random.nextInt(12));
      case 6: return Float.intBitsToFloat(random.nextInt() & 0x81ffffff);
      case 7: return Double.longBitsToDouble(random.nextLong() & 0x801fffffffffffffL);
      // The least ones: a rest by them goes through small whole numbers, 0 and 1 among them.
      case 8: return Float.intBitsToFloat(random.nextInt() & 0x8000003f);
      default: return Double.longBitsToDouble(random.nextLong() & 0x800000000000003fL);
    }
  }

  private static Number number(float value) {
    return Float.isNaN(value) ? Float.POSITIVE_INFINITY : value;
  }

  private static Number number(double value) {
    return Double.isNaN(value) ? Double.NEGATIVE_INFINITY : value;
  }

  /** Null where nothing comes of it. */
  private static Number worked(int what, int kind, Number a, Number b) {
    if (kind <= 1 && what >= 3 && b.longValue() == 0L) return null;
    Number came = Language.worked(what, kind, a, b);
    return Double.isNaN(came.doubleValue()) ? null : came;
  }
}
