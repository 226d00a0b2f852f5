/** Values in their boxes (Integer, Long, Float, Double), whose own casts are the language's. */
final class Language {
  private Language() {
  }

  static int kindOf(Number value) {
    return value instanceof Integer ? 0 : value instanceof Long ? 1 : value instanceof Float ? 2 : 3;
  }

  static Number cast(Number value, int kind) {
    switch (kind) {
      case 0: return value.intValue();
      case 1: return value.longValue();
      case 2: return value.floatValue();
      default: return value.doubleValue();
    }
  }

  static long bits(Number value) {
    if (value instanceof Float) return Float.floatToIntBits((Float) value);
    if (value instanceof Double) return Double.doubleToLongBits((Double) value);
    return value.longValue();
  }

  /** Of both values, cast to a kind; it throws, or comes to what is no number, as the language has it. */
  static Number worked(int what, int kind, Number a, Number b) {
    switch (kind) {
      case 0: return ints(what, a.intValue(), b.intValue());
      case 1: return longs(what, a.longValue(), b.longValue());
      case 2: return floats(what, a.floatValue(), b.floatValue());
      default: return doubles(what, a.doubleValue(), b.doubleValue());
    }
  }

  private static int ints(int what, int x, int y) {
    return what == 0 ? x + y : what == 1 ? x - y : what == 2 ? x * y : what == 3 ? x / y : x % y;
  }

  private static long longs(int what, long x, long y) {
    return what == 0 ? x + y : what == 1 ? x - y : what == 2 ? x * y : what == 3 ? x / y : x % y;
  }

  private static float floats(int what, float x, float y) {
    return what == 0 ? x + y : what == 1 ? x - y : what == 2 ? x * y : what == 3 ? x / y : x % y;
  }

  private static double doubles(int what, double x, double y) {
    return what == 0 ? x + y : what == 1 ? x - y : what == 2 ? x * y : what == 3 ? x / y : x % y;
  }
}
