/**
 * The works of an orrery: wheels, registers, strips, pointers and stands.
 *
 * <p>Every value is held as its BITS (a long) beside its KIND, so that signs of zeros are never lost and two values
 * are the same just when their BITS are. What the machine would refuse is looked for before it is done, and told.
 */
public final class OrreryWorks {
  public static final int NONE = -1, BAD = -2, FULL = -3, SPUN = -4, VOID = -5, ZERO = -6, CAST = -7, INDEX = -8,
      STORE = -9, NULL = -10;

  private static final int INT = 0, LONG = 1, FLOAT = 2, DOUBLE = 3;
  private static final int PLUS = 0, LESS = 1, TIMES = 2, BY = 3, REST_BY = 4;
  private static final int COARSE = 0, FINE = 1, VERNIER = 2, LAMP = 3;
  private static final int ROW_OF_SHOWING = 3;
  private static final int MOST_WHEELS = 10, MOST_REGISTERS = 16, MOST_STRIPS = 8, MOST_POINTERS = 12, MOST_STANDS = 8;
  private static final int LONGEST_STRIP = 16, WIDEST_STAND = 6;

  private final Wheel[] wheels = new Wheel[MOST_WHEELS];
  private final Register[] registers = new Register[MOST_REGISTERS];
  private final Strip[] strips = new Strip[MOST_STRIPS];
  private final Pointer[] pointers = new Pointer[MOST_POINTERS];
  private final Stand[] stands = new Stand[MOST_STANDS];
  private int wheelCount = 0;
  private int registerCount = 0;
  private int stripCount = 0;
  private int pointerCount = 0;
  private int standCount = 0;
  /** How often each refusal came, FULL first, NULL last. */
  private final int[] refusals = new int[FULL - NULL + 1];
  private int latest = 0;

  public OrreryWorks() {
  }

  public int wheel(int kind, long turn) {
    if (kind < FLOAT || kind > DOUBLE || !Reals.isNumber(DOUBLE, turn)) return refuse(BAD);
    long bits = Kinds.cast(DOUBLE, turn, kind);
    if (Reals.isZero(kind, bits)) return refuse(BAD);
    if (wheelCount >= MOST_WHEELS) return refuse(FULL);
    wheels[wheelCount] = new Wheel(kind, bits);
    return answer(wheelCount++);
  }

  public int turn(int wheel, long by) {
    Wheel turned = wheelAt(wheel);
    if (turned == null || !Reals.isNumber(DOUBLE, by)) return refuseAnyNumber(BAD);
    int kind = turned.kind;
    double step = Reals.valueOf(kind, Kinds.cast(DOUBLE, by, kind));
    double sum = Reals.worked(kind, PLUS, Reals.valueOf(kind, turned.position), step);
    long sumBits = Reals.bitsOf(kind, sum);
    if (Reals.isEndless(kind, sumBits)) return refuseAnyNumber(SPUN);
    turned.position = Reals.restOf(kind, sumBits, turned.turn);
    return answer((int) Reals.worked(kind, BY, sum, Reals.valueOf(kind, turned.turn)));
  }

  public long wheelOf(int wheel, int what) {
    Wheel asked = wheelAt(wheel);
    if (asked == null || what < 0 || what > 1) return refuseAnyNumber(BAD);
    return answerLong(what == 0 ? asked.position : asked.turn);
  }

  public int register(int kind) {
    if (!Kinds.isKind(kind)) return refuse(BAD);
    if (registerCount >= MOST_REGISTERS) return refuse(FULL);
    registers[registerCount] = new Register(kind);
    return answer(registerCount++);
  }

  public int load(int register, int kind, long bits) {
    Register loaded = registerAt(register);
    if (loaded == null || !Kinds.isKind(kind)) return refuse(BAD);
    long told = kind == INT || kind == FLOAT ? (long) (int) bits : bits;
    if (!Kinds.isNumber(kind, told)) return refuse(BAD);
    loaded.bits = Kinds.cast(kind, told, loaded.kind);
    return answer(1);
  }

  public long read(int register, int kind) {
    Register asked = registerAt(register);
    if (asked == null || !Kinds.isKind(kind)) return refuseAnyNumber(BAD);
    return answerLong(Kinds.cast(asked.kind, asked.bits, kind));
  }

  public int move(int from, int to) {
    Register source = registerAt(from);
    Register target = registerAt(to);
    if (source == null || target == null) return refuse(BAD);
    long moved = Kinds.cast(source.kind, source.bits, target.kind);
    boolean same = Kinds.cast(target.kind, moved, source.kind) == source.bits;
    target.bits = moved;
    return answer(same ? 1 : 0);
  }

  public int take(int wheel, int register) {
    Wheel source = wheelAt(wheel);
    Register target = registerAt(register);
    if (source == null || target == null) return refuse(BAD);
    target.bits = Kinds.cast(source.kind, source.position, target.kind);
    return answer(1);
  }

  public int work(int what, int a, int b, int to) {
    Register first = registerAt(a);
    Register second = registerAt(b);
    Register third = registerAt(to);
    if (what < PLUS || what > REST_BY || first == null || second == null || third == null) return refuse(BAD);
    int kind = Math.max(first.kind, second.kind);
    long x = Kinds.cast(first.kind, first.bits, kind);
    long y = Kinds.cast(second.kind, second.bits, kind);
    if (kind <= LONG) {
      if (what >= BY && y == 0L) return refuse(ZERO);
    } else if (Reals.isVoid(kind, what, x, y)) {
      return refuse(VOID);
    }
    third.bits = Kinds.cast(kind, Kinds.worked(kind, what, x, y), third.kind);
    return answer(1);
  }

  public int strip(int lane, int n) {
    if (!Kinds.isKind(lane) || n < 0 || n > LONGEST_STRIP) return refuse(BAD);
    if (stripCount >= MOST_STRIPS) return refuse(FULL);
    strips[stripCount] = new Strip(lane, n);
    return answer(stripCount++);
  }

  public int tear(int strip) {
    Strip torn = stripAt(strip);
    if (torn == null) return refuse(BAD);
    boolean was = torn.places == null;
    torn.places = null;
    return answer(was ? 0 : 1);
  }

  public int keep(int strip, int lane, int i, int register) {
    Strip keeper = stripAt(strip);
    Register source = registerAt(register);
    if (keeper == null || !Kinds.isKind(lane) || source == null) return refuse(BAD);
    long[] places = keeper.places;
    if (places == null) return refuse(NULL);
    if (keeper.lane != lane) return refuse(CAST);
    if (i < 0 || i >= places.length) return refuse(INDEX);
    places[i] = Kinds.cast(source.kind, source.bits, lane);
    return answer(1);
  }

  public long kept(int strip, int lane, int i) {
    Strip keeper = stripAt(strip);
    if (keeper == null || !Kinds.isKind(lane)) return refuseAnyNumber(BAD);
    long[] places = keeper.places;
    if (places == null) return refuseAnyNumber(NULL);
    if (keeper.lane != lane) return refuseAnyNumber(CAST);
    if (i < 0 || i >= places.length) return refuseAnyNumber(INDEX);
    return answerLong(places[i]);
  }

  public int rests(int strip, int register) {
    Strip keeper = stripAt(strip);
    Register target = registerAt(register);
    if (keeper == null || target == null) return refuse(BAD);
    long[] places = keeper.places;
    if (places == null) return refuse(NULL);
    int lane = keeper.lane;
    if (lane <= LONG) return refuse(CAST);
    double sum = 0.0;
    int found = 0;
    for (int i = 0; i + 1 < places.length; i++) {
      if (!Reals.isVoid(lane, REST_BY, places[i], places[i + 1])) {
        long rest = Reals.restOf(lane, places[i], places[i + 1]);
        sum = Reals.worked(lane, PLUS, sum, Reals.valueOf(lane, rest));
        found++;
      }
    }
    target.bits = Kinds.castReal(sum, target.kind);
    return answer(found);
  }

  public int pointer(int sort, int wheel) {
    Wheel shown = wheelAt(wheel);
    if (sort < COARSE || sort > LAMP || shown == null) return refuse(BAD);
    if (pointerCount >= MOST_POINTERS) return refuse(FULL);
    pointers[pointerCount] = new Pointer(sort, shown);
    return answer(pointerCount++);
  }

  public int stand(int sort, int n) {
    if (sort < 0 || sort > ROW_OF_SHOWING || n < 1 || n > WIDEST_STAND) return refuse(BAD);
    if (standCount >= MOST_STANDS) return refuse(FULL);
    stands[standCount] = new Stand(sort, n);
    return answer(standCount++);
  }

  public int set(int stand, int i, int pointer) {
    Stand bearer = standAt(stand);
    Pointer put = pointerAt(pointer);
    if (bearer == null || put == null && pointer != NONE) return refuse(BAD);
    if (bearer.sort == ROW_OF_SHOWING || put != null && put.sort == LAMP) return refuse(CAST);
    return putAt(bearer, i, put);
  }

  public int hang(int stand, int i, int pointer) {
    Stand bearer = standAt(stand);
    Pointer put = pointerAt(pointer);
    if (bearer == null || put == null && pointer != NONE) return refuse(BAD);
    return putAt(bearer, i, put);
  }

  public long show(int stand, int i) {
    Stand bearer = standAt(stand);
    if (bearer == null) return refuseAnyNumber(BAD);
    if (!bearer.hasPlace(i)) return refuseAnyNumber(INDEX);
    Pointer there = bearer.places[i];
    if (there == null) return refuseAnyNumber(NULL);
    return answerLong(there.shown());
  }

  public long all(int stand) {
    Stand bearer = standAt(stand);
    if (bearer == null) return refuseAnyNumber(BAD);
    long sum = 0L;
    for (Pointer there : bearer.places) {
      if (there != null) sum += there.shown();
    }
    return answerLong(sum);
  }

  public int count(int what) {
    switch (what) {
      case 0: return wheelCount;
      case 1: return registerCount;
      case 2: return stripCount;
      case 3: return pointerCount;
      case 4: return standCount;
      default: return BAD;
    }
  }

  public int often(int refusal) {
    return refusal <= FULL && refusal >= NULL ? refusals[FULL - refusal] : 0;
  }

  public int refused() {
    return latest;
  }

  private int answer(int number) {
    latest = 0;
    return number;
  }

  private long answerLong(long number) {
    latest = 0;
    return number;
  }

  private int refuse(int why) {
    latest = why;
    if (why <= FULL && why >= NULL) refusals[FULL - why]++;
    return why;
  }

  /** Where any number may be an answer, only refused() can tell a refusal. */
  private int refuseAnyNumber(int why) {
    refuse(why);
    return 0;
  }

  private Wheel wheelAt(int number) {
    return number >= 0 && number < wheelCount ? wheels[number] : null;
  }

  private Register registerAt(int number) {
    return number >= 0 && number < registerCount ? registers[number] : null;
  }

  private Strip stripAt(int number) {
    return number >= 0 && number < stripCount ? strips[number] : null;
  }

  private Pointer pointerAt(int number) {
    return number >= 0 && number < pointerCount ? pointers[number] : null;
  }

  private Stand standAt(int number) {
    return number >= 0 && number < standCount ? stands[number] : null;
  }

  private int putAt(Stand bearer, int i, Pointer put) {
    if (!bearer.hasPlace(i)) return refuse(INDEX);
    if (put != null && !bearer.isWideFor(put.sort)) return refuse(STORE);
    bearer.places[i] = put;
    return answer(1);
  }

  private static final class Wheel {
    final int kind;
    final long turn;
    /** Never endless: it is a rest of what is not. */
    long position = 0L;

    Wheel(int kind, long turn) {
      this.kind = kind;
      this.turn = turn;
    }
  }

  private static final class Register {
    final int kind;
    long bits = 0L;

    Register(int kind) {
      this.kind = kind;
    }
  }

  private static final class Strip {
    final int lane;
    /** Null when the strip is gone. */
    long[] places;

    Strip(int lane, int n) {
      this.lane = lane;
      this.places = new long[n];
    }
  }

  private static final class Pointer {
    final int sort;
    final Wheel wheel;

    Pointer(int sort, Wheel wheel) {
      this.sort = sort;
      this.wheel = wheel;
    }

    long shown() {
      switch (sort) {
        case COARSE: return Kinds.cast(wheel.kind, wheel.position, INT);
        case FINE: return thousandths();
        case VERNIER: return Kinds.cast(LONG, thousandths(), FLOAT);
        // BITS of both kinds are below 0 just when the sign is, of a zero too.
        default: return wheel.position < 0L ? 1L : 0L;
      }
    }

    private long thousandths() {
      return (long) (Reals.valueOf(wheel.kind, wheel.position) * 1000.0);
    }
  }

  private static final class Stand {
    final int sort;
    final Pointer[] places;

    Stand(int sort, int n) {
      this.sort = sort;
      this.places = new Pointer[n];
    }

    boolean hasPlace(int i) {
      return i >= 0 && i < places.length;
    }

    /** Hands are numbered so that each sort is one of the sorts below it, too; a lamp is none of them. */
    boolean isWideFor(int pointerSort) {
      return sort == ROW_OF_SHOWING || pointerSort != LAMP && pointerSort >= sort;
    }
  }

  /** Values of all four kinds, told by their bits. */
  private static final class Kinds {
    static boolean isKind(int kind) {
      return kind >= INT && kind <= DOUBLE;
    }

    static boolean isNumber(int kind, long bits) {
      return kind <= LONG || Reals.isNumber(kind, bits);
    }

    static long cast(int from, long bits, int to) {
      if (from == to) return bits;
      return from <= LONG ? castWhole(bits, to) : castReal(Reals.valueOf(from, bits), to);
    }

    /** A long goes to a float at once: by way of a double it would be rounded twice. */
    private static long castWhole(long value, int to) {
      switch (to) {
        case INT: return (long) (int) value;
        case LONG: return value;
        case FLOAT: return Reals.bitsOf(FLOAT, (double) (float) value);
        default: return Reals.bitsOf(DOUBLE, (double) value);
      }
    }

    static long castReal(double value, int to) {
      switch (to) {
        case INT: return (long) (int) value;
        case LONG: return (long) value;
        case FLOAT: return Reals.bitsOf(FLOAT, (double) (float) value);
        default: return Reals.bitsOf(DOUBLE, value);
      }
    }

    /** Asks that what is ZERO or VOID has been refused. */
    static long worked(int kind, int what, long x, long y) {
      if (kind == INT) return (long) (int) workedWhole(what, x, y);
      if (kind == LONG) return workedWhole(what, x, y);
      if (what == REST_BY) return Reals.restOf(kind, x, y);
      return Reals.bitsOf(kind, Reals.worked(kind, what, Reals.valueOf(kind, x), Reals.valueOf(kind, y)));
    }

    private static long workedWhole(int what, long x, long y) {
      switch (what) {
        case PLUS: return x + y;
        case LESS: return x - y;
        case TIMES: return x * y;
        case BY: return y == 0L ? 0L : x / y;
        default: return y == 0L ? 0L : x % y;
      }
    }
  }

  /**
   * Floats and doubles. Their bits are a sign (the bits are below 0), and a SIZE: a FIELD for the power of two, then
   * the fraction. A float's value is carried in a double, which holds each of them.
   */
  private static final class Reals {
    static boolean isNumber(int kind, long bits) {
      return sizeOf(kind, bits) <= endless(kind);
    }

    static boolean isEndless(int kind, long bits) {
      return sizeOf(kind, bits) == endless(kind);
    }

    static boolean isZero(int kind, long bits) {
      return sizeOf(kind, bits) == 0L;
    }

    /** Whether working x and y would come to what is no number. */
    static boolean isVoid(int kind, int what, long x, long y) {
      boolean endlessX = isEndless(kind, x);
      boolean endlessY = isEndless(kind, y);
      boolean sameSign = (x ^ y) >= 0L;
      switch (what) {
        case PLUS: return endlessX && endlessY && !sameSign;
        case LESS: return endlessX && endlessY && sameSign;
        case TIMES: return isZero(kind, x) && endlessY || endlessX && isZero(kind, y);
        case BY: return isZero(kind, x) && isZero(kind, y) || endlessX && endlessY;
        default: return isZero(kind, y) || endlessX;
      }
    }

    /** Plus, less, times, by; asks that it is not VOID. */
    static double worked(int kind, int what, double x, double y) {
      if (kind == FLOAT) return (double) workedFloats(what, (float) x, (float) y);
      switch (what) {
        case PLUS: return x + y;
        case LESS: return x - y;
        case TIMES: return x * y;
        default: return x / y;
      }
    }

    private static float workedFloats(int what, float x, float y) {
      switch (what) {
        case PLUS: return x + y;
        case LESS: return x - y;
        case TIMES: return x * y;
        default: return x / y;
      }
    }

    static double valueOf(int kind, long bits) {
      long size = sizeOf(kind, bits);
      double value = scaled((double) wholeOf(kind, size), fieldOf(kind, size) - bias(kind) - fractionBits(kind));
      // Bits of an endless one scale to the first power of two beyond their kind: a double is endless there by itself,
      // and the cast makes the float endless.
      if (kind == FLOAT) value = (double) (float) value;
      return bits < 0L ? -value : value;
    }

    static long bitsOf(int kind, double value) {
      boolean below = value < 0.0 || value == 0.0 && 1.0 / value < 0.0;
      return signed(kind, sizeOfValue(kind, below ? -value : value), below);
    }

    /** The rest has the sign of x; asks that it is not VOID. */
    static long restOf(int kind, long x, long y) {
      return signed(kind, restOfSizes(kind, sizeOf(kind, x), sizeOf(kind, y)), x < 0L);
    }

    /** Long division of the whole numbers behind the sizes, so that nothing is ever rounded. */
    private static long restOfSizes(int kind, long size, long by) {
      if (size < by || by == 0L) return size;
      long divisor = wholeOf(kind, by);
      if (divisor == 0L) return size;
      long rest = wholeOf(kind, size) % divisor;
      // A divisor has at most 53 bits, so ten more stay within a long.
      for (int left = fieldOf(kind, size) - fieldOf(kind, by); left > 0 && rest != 0L; left -= 10) {
        rest = (rest << Math.min(left, 10)) % divisor;
      }
      return rest == 0L ? 0L : sizeOfWhole(kind, rest, fieldOf(kind, by));
    }

    /** The size of a whole number, above 0 and below two units, that stands under a field. */
    private static long sizeOfWhole(int kind, long whole, int field) {
      int fractionBits = fractionBits(kind);
      int shift = Math.min(Long.numberOfLeadingZeros(whole) - 63 + fractionBits, field - 1);
      return sizeOfParts(fractionBits, field - shift, whole << shift);
    }

    private static long sizeOfValue(int kind, double value) {
      if (value == 0.0) return 0L;
      if (value > 1.7976931348623157E308) return endless(kind);
      double left = value;
      int exponent = 0;
      for (; exponent < 1024 && left >= 4294967296.0; exponent += 32) left /= 4294967296.0;
      for (; exponent > -1088 && left < 1.0; exponent -= 32) left *= 4294967296.0;
      int top = 63 - Long.numberOfLeadingZeros((long) left);
      int fractionBits = fractionBits(kind);
      long whole = (long) (left * (double) (1L << (52 - top))) >>> (52 - fractionBits);
      int field = exponent + top + bias(kind);
      return field >= 1 ? sizeOfParts(fractionBits, field, whole) : whole >>> (1 - field);
    }

    /** The whole number's highest bit is not written: it adds the 1 that the field is short of. */
    private static long sizeOfParts(int fractionBits, int field, long whole) {
      return ((long) (field - 1) << fractionBits) + whole;
    }

    private static double scaled(double value, int exponent) {
      double scaled = value;
      int left = exponent;
      for (; left >= 32; left -= 32) scaled *= 4294967296.0;
      for (; left <= -32; left += 32) scaled /= 4294967296.0;
      return left >= 0 ? scaled * (double) (1L << left) : scaled / (double) (1L << -left);
    }

    /** The smallest numbers, whose field is written as 0, stand under field 1. */
    private static int fieldOf(int kind, long size) {
      return Math.max(1, (int) (size >>> fractionBits(kind)));
    }

    private static long wholeOf(int kind, long size) {
      long unit = 1L << fractionBits(kind);
      return size < unit ? size : size & (unit - 1L) | unit;
    }

    private static long signed(int kind, long size, boolean below) {
      return below ? size | ~sizeMask(kind) : size;
    }

    private static long sizeOf(int kind, long bits) {
      return bits & sizeMask(kind);
    }

    private static long sizeMask(int kind) {
      return kind == FLOAT ? 0x7fffffffL : 0x7fffffffffffffffL;
    }

    private static long endless(int kind) {
      return kind == FLOAT ? 0x7f800000L : 0x7ff0000000000000L;
    }

    private static int fractionBits(int kind) {
      return kind == FLOAT ? 23 : 52;
    }

    private static int bias(int kind) {
      return kind == FLOAT ? 127 : 1023;
    }
  }
}
