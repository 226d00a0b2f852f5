/** Each promise of the document by itself: ordinary calls, the edges it names, and wrong numbers. */
public final class PromisesTest {
  private static final double ENDLESS = Double.POSITIVE_INFINITY;
  private static final long NO_NUMBER = 0x7ff8000000000000L;
  private static int wrong = 0;

  public static void main(String[] args) {
    newObject();
    wheel();
    turn();
    turnEdges();
    wheelOf();
    register();
    load();
    read();
    move();
    take();
    workWholes();
    workReals();
    workVoid();
    strip();
    tear();
    keep();
    kept();
    rests();
    pointer();
    stand();
    set();
    hang();
    show();
    all();
    count();
    often();
    refused();
    System.out.println(wrong == 0 ? "all promises hold" : wrong + " answers are not as due");
    if (wrong != 0) System.exit(1);
  }

  private static void due(int promise, String call, long got, long want) {
    if (got == want) return;
    wrong++;
    System.out.println("promise " + promise + ": " + call + " answered " + got + ", due is " + want);
  }

  /** For a call that answers any number: 0, and why. */
  private static void dueRefused(int promise, String call, OrreryWorks x, long got, int why) {
    due(promise, call, got, 0);
    due(promise, call + ", refused()", x.refused(), why);
  }

  private static long bits(double value) {
    return Double.doubleToRawLongBits(value);
  }

  private static long bits(float value) {
    return Float.floatToRawIntBits(value);
  }

  /** Registers 0 .. 3 of kinds 0 .. 3. */
  private static OrreryWorks withRegisters() {
    OrreryWorks x = new OrreryWorks();
    for (int kind = 0; kind <= 3; kind++) x.register(kind);
    return x;
  }

  /**
   * Wheel 0 of floats, wheel 1 of doubles, both of turn 100; pointers 0 .. 3 of sorts 0 .. 3, all of wheel 1; stands
   * 0 .. 3 of sorts 0 .. 3, with 3 places each.
   */
  private static OrreryWorks withStands() {
    OrreryWorks x = new OrreryWorks();
    x.wheel(2, bits(100.0));
    x.wheel(3, bits(100.0));
    for (int sort = 0; sort <= 3; sort++) x.pointer(sort, 1);
    for (int sort = 0; sort <= 3; sort++) x.stand(sort, 3);
    return x;
  }

  private static void newObject() {
    OrreryWorks x = new OrreryWorks();
    for (int what = 0; what <= 4; what++) due(1, "count", x.count(what), 0);
    for (int refusal = -12; refusal <= 2; refusal++) due(1, "often", x.often(refusal), 0);
    due(1, "refused", x.refused(), 0);
    dueRefused(1, "wheelOf(0, 0)", x, x.wheelOf(0, 0), OrreryWorks.BAD);
  }

  private static void wheel() {
    OrreryWorks x = new OrreryWorks();
    due(2, "kind 1", x.wheel(1, bits(1.0)), OrreryWorks.BAD);
    due(2, "kind 4", x.wheel(4, bits(1.0)), OrreryWorks.BAD);
    due(2, "0.0", x.wheel(3, bits(0.0)), OrreryWorks.BAD);
    due(2, "-0.0", x.wheel(2, bits(-0.0)), OrreryWorks.BAD);
    due(2, "no number", x.wheel(3, NO_NUMBER), OrreryWorks.BAD);
    due(2, "no number, below", x.wheel(2, -1L), OrreryWorks.BAD);
    due(2, "0 as a float", x.wheel(2, bits(7.0E-46)), OrreryWorks.BAD);
    due(2, "the same as a double", x.wheel(3, bits(7.0E-46)), 0);
    due(2, "least float", x.wheel(2, bits(7.1E-46)), 1);
    due(2, "endless as a float", x.wheel(2, bits(-1.0E39)), 2);
    due(2, "endless", x.wheel(3, bits(ENDLESS)), 3);
    due(2, "turn 0", x.wheelOf(0, 1), bits(7.0E-46));
    due(2, "turn 1", x.wheelOf(1, 1), 1);
    due(2, "turn 2", x.wheelOf(2, 1), bits(Float.NEGATIVE_INFINITY));
    due(2, "turn 3", x.wheelOf(3, 1), bits(ENDLESS));
    for (int i = 4; i < 10; i++) due(2, "wheel", x.wheel(3, bits(i)), i);
    due(2, "an eleventh", x.wheel(3, bits(1.0)), OrreryWorks.FULL);
    due(2, "BAD before FULL", x.wheel(3, bits(0.0)), OrreryWorks.BAD);
    due(2, "count", x.count(0), 10);
  }

  private static void turn() {
    OrreryWorks x = new OrreryWorks();
    x.wheel(3, bits(3.5));
    due(3, "turn(0, 12.0)", x.turn(0, bits(12.0)), 3);
    due(3, "position", x.wheelOf(0, 0), bits(1.5));
    due(3, "turn(0, 2.0)", x.turn(0, bits(2.0)), 1);
    due(3, "position", x.wheelOf(0, 0), bits(0.0));
    due(3, "turn(0, -7.0)", x.turn(0, bits(-7.0)), -2);
    due(3, "position, the sign stays", x.wheelOf(0, 0), bits(-0.0));
    due(3, "turn(0, -0.0)", x.turn(0, bits(-0.0)), 0);
    due(3, "position", x.wheelOf(0, 0), bits(-0.0));
    x.wheel(2, bits(0.1));
    due(3, "in floats", x.turn(1, bits(1.0)), (int) (1.0f / 0.1f));
    due(3, "position in floats", x.wheelOf(1, 0), bits(1.0f % 0.1f));
    x.wheel(2, bits(1.0));
    due(3, "cast to a float first", x.turn(2, bits(0.99999999)), 1);
    due(3, "position", x.wheelOf(2, 0), 0);
    dueRefused(3, "no wheel", x, x.turn(3, bits(1.0)), OrreryWorks.BAD);
    dueRefused(3, "no wheel", x, x.turn(-1, bits(1.0)), OrreryWorks.BAD);
    dueRefused(3, "no number", x, x.turn(0, NO_NUMBER), OrreryWorks.BAD);
    due(3, "position stays", x.wheelOf(0, 0), bits(-0.0));
  }

  private static void turnEdges() {
    OrreryWorks x = new OrreryWorks();
    x.wheel(3, bits(ENDLESS));
    due(3, "far within an endless turn", x.turn(0, bits(Double.MAX_VALUE)), 0);
    due(3, "position", x.wheelOf(0, 0), bits(Double.MAX_VALUE));
    dueRefused(3, "beyond the doubles", x, x.turn(0, bits(Double.MAX_VALUE)), OrreryWorks.SPUN);
    dueRefused(3, "endless", x, x.turn(0, bits(-ENDLESS)), OrreryWorks.SPUN);
    due(3, "position stays", x.wheelOf(0, 0), bits(Double.MAX_VALUE));
    x.wheel(2, bits(-2.0));
    dueRefused(3, "endless as a float", x, x.turn(1, bits(1.0E39)), OrreryWorks.SPUN);
    due(3, "turns below", x.turn(1, bits(5.0)), -2);
    due(3, "position", x.wheelOf(1, 0), bits(1.0f));
    x.wheel(3, bits(Double.MIN_VALUE));
    due(3, "turns are cut at the greatest int", x.turn(2, bits(Double.MAX_VALUE)), Integer.MAX_VALUE);
    due(3, "position", x.wheelOf(2, 0), 0);
    due(3, "turns are cut at the least int", x.turn(2, bits(-1.0)), Integer.MIN_VALUE);
    x.wheel(3, bits(3.0));
    due(3, "many turns", x.turn(3, bits(1.0E300)), Integer.MAX_VALUE);
    due(3, "position", x.wheelOf(3, 0), bits(1.0E300 % 3.0));
    due(3, "often", x.often(OrreryWorks.SPUN), 3);
  }

  private static void wheelOf() {
    OrreryWorks x = new OrreryWorks();
    x.wheel(2, bits(-2.5));
    x.wheel(3, bits(-2.5));
    due(4, "position of floats", x.wheelOf(0, 0), 0);
    due(4, "turn of floats", x.wheelOf(0, 1), bits(-2.5f));
    due(4, "turn of doubles", x.wheelOf(1, 1), bits(-2.5));
    x.turn(0, bits(-1.25));
    due(4, "position below, as an int", x.wheelOf(0, 0), bits(-1.25f));
    due(4, "refused", x.refused(), 0);
    dueRefused(4, "what 2", x, x.wheelOf(0, 2), OrreryWorks.BAD);
    dueRefused(4, "what -1", x, x.wheelOf(0, -1), OrreryWorks.BAD);
    dueRefused(4, "wheel 2", x, x.wheelOf(2, 0), OrreryWorks.BAD);
    dueRefused(4, "wheel -1", x, x.wheelOf(-1, 0), OrreryWorks.BAD);
  }

  private static void register() {
    OrreryWorks x = new OrreryWorks();
    due(5, "kind -1", x.register(-1), OrreryWorks.BAD);
    due(5, "kind 4", x.register(4), OrreryWorks.BAD);
    for (int i = 0; i < 16; i++) {
      due(5, "register", x.register(i % 4), i);
      due(5, "0 at first", x.read(i, 3), 0);
    }
    due(5, "a seventeenth", x.register(0), OrreryWorks.FULL);
    due(5, "BAD before FULL", x.register(7), OrreryWorks.BAD);
    due(5, "count", x.count(1), 16);
  }

  private static void load() {
    OrreryWorks x = withRegisters();
    due(6, "int, lowest 32", x.load(1, 0, 0x1234567880000001L), 1);
    due(6, "read", x.read(1, 1), -2147483647L);
    due(6, "float, lowest 32", x.load(2, 2, 0x7fffffff00000000L | bits(1.5f)), 1);
    due(6, "read", x.read(2, 2), bits(1.5f));
    due(6, "long into an int", x.load(0, 1, 0x1ffffffffL), 1);
    due(6, "read", x.read(0, 0), -1);
    due(6, "double into an int, cut", x.load(0, 3, bits(-2.9)), 1);
    due(6, "read", x.read(0, 0), -2);
    due(6, "endless double", x.load(2, 3, bits(-ENDLESS)), 1);
    due(6, "read", x.read(2, 2), bits(Float.NEGATIVE_INFINITY));
    due(6, "a float that is no number", x.load(2, 2, 0x7f800001L), OrreryWorks.BAD);
    due(6, "a float that is no number, below", x.load(2, 2, 0xffc00000L), OrreryWorks.BAD);
    due(6, "a double that is no number", x.load(0, 3, NO_NUMBER), OrreryWorks.BAD);
    due(6, "the same as a long", x.load(0, 1, NO_NUMBER), 1);
    due(6, "kind 4", x.load(0, 4, 1), OrreryWorks.BAD);
    due(6, "kind -1", x.load(0, -1, 1), OrreryWorks.BAD);
    due(6, "register 4", x.load(4, 0, 1), OrreryWorks.BAD);
    due(6, "register -1", x.load(-1, 0, 1), OrreryWorks.BAD);
    due(6, "register 2 is as before", x.read(2, 2), bits(Float.NEGATIVE_INFINITY));
  }

  private static void read() {
    OrreryWorks x = withRegisters();
    x.load(3, 3, bits(-1.0E10));
    due(7, "as an int", x.read(3, 0), Integer.MIN_VALUE);
    due(7, "as a long", x.read(3, 1), -10000000000L);
    due(7, "as a float", x.read(3, 2), bits(-1.0E10f));
    due(7, "as a double", x.read(3, 3), bits(-1.0E10));
    x.load(1, 1, 0x7fffffbfffffffffL);
    due(7, "a long to a float, rounded once", x.read(1, 2), bits((float) 0x7fffffbfffffffffL));
    due(7, "a long to an int", x.read(1, 0), -1);
    x.load(3, 3, bits(-0.0));
    due(7, "-0.0 as a float", x.read(3, 2), bits(-0.0f));
    due(7, "-0.0 as an int", x.read(3, 0), 0);
    x.load(3, 3, bits(1.0E-40));
    due(7, "a least float", x.read(3, 2), bits(1.0E-40f));
    due(7, "refused", x.refused(), 0);
    dueRefused(7, "kind 4", x, x.read(0, 4), OrreryWorks.BAD);
    dueRefused(7, "kind -1", x, x.read(0, -1), OrreryWorks.BAD);
    dueRefused(7, "register 4", x, x.read(4, 0), OrreryWorks.BAD);
    dueRefused(7, "register -1", x, x.read(-1, 0), OrreryWorks.BAD);
  }

  private static void move() {
    OrreryWorks x = withRegisters();
    x.load(1, 1, 16777217L);
    due(8, "long to float, lost", x.move(1, 2), 0);
    due(8, "read", x.read(2, 2), bits(16777216.0f));
    due(8, "float to long, kept", x.move(2, 1), 1);
    due(8, "read", x.read(1, 1), 16777216L);
    x.load(3, 3, bits(-0.0));
    due(8, "-0.0 to int: other bits", x.move(3, 0), 0);
    due(8, "-0.0 to float: the same", x.move(3, 2), 1);
    due(8, "0 to 0.0", x.move(0, 3), 1);
    x.load(3, 3, bits(0.1));
    due(8, "0.1 to float", x.move(3, 2), 0);
    due(8, "and back", x.move(2, 3), 1);
    x.load(1, 1, Long.MAX_VALUE);
    due(8, "the greatest long comes back", x.move(1, 3), 1);
    due(8, "into itself", x.move(3, 3), 1);
    due(8, "from 4", x.move(4, 0), OrreryWorks.BAD);
    due(8, "to 4", x.move(0, 4), OrreryWorks.BAD);
    due(8, "from -1", x.move(-1, 0), OrreryWorks.BAD);
    due(8, "to -1", x.move(0, -1), OrreryWorks.BAD);
  }

  private static void take() {
    OrreryWorks x = withRegisters();
    x.wheel(3, bits(ENDLESS));
    x.turn(0, bits(-1.0E300));
    long[] want = {Integer.MIN_VALUE, Long.MIN_VALUE, bits(Float.NEGATIVE_INFINITY), bits(-1.0E300)};
    for (int kind = 0; kind <= 3; kind++) {
      due(9, "take(0, " + kind + ")", x.take(0, kind), 1);
      due(9, "read(" + kind + ")", x.read(kind, kind), want[kind]);
    }
    x.wheel(2, bits(10.0));
    x.turn(1, bits(0.1));
    due(9, "floats", x.take(1, 3), 1);
    due(9, "read", x.read(3, 3), bits((double) 0.1f));
    due(9, "wheel 2", x.take(2, 0), OrreryWorks.BAD);
    due(9, "wheel -1", x.take(-1, 0), OrreryWorks.BAD);
    due(9, "register 4", x.take(0, 4), OrreryWorks.BAD);
    due(9, "register -1", x.take(0, -1), OrreryWorks.BAD);
  }

  private static void workWholes() {
    OrreryWorks x = withRegisters();
    x.register(0);
    x.load(0, 0, Integer.MAX_VALUE);
    x.load(4, 0, 2);
    long[] ints = {Integer.MIN_VALUE + 1, Integer.MAX_VALUE - 2, -2, 1073741823, 1};
    for (int what = 0; what <= 4; what++) {
      due(10, "ints " + what, x.work(what, 0, 4, 1), 1);
      due(10, "ints " + what + ", read", x.read(1, 1), ints[what]);
    }
    x.load(0, 0, Integer.MIN_VALUE);
    x.load(4, 0, -1);
    due(10, "least by -1", x.work(3, 0, 4, 1), 1);
    due(10, "read", x.read(1, 1), Integer.MIN_VALUE);
    due(10, "rest", x.work(4, 0, 4, 1), 1);
    due(10, "read", x.read(1, 1), 0);
    x.load(1, 1, Long.MIN_VALUE);
    due(10, "least long by int", x.work(3, 1, 4, 1), 1);
    due(10, "read", x.read(1, 1), Long.MIN_VALUE);
    x.load(4, 0, 0);
    for (int what = 3; what <= 4; what++) {
      due(10, "int by 0", x.work(what, 0, 4, 1), OrreryWorks.ZERO);
      due(10, "long by 0", x.work(what, 1, 4, 1), OrreryWorks.ZERO);
    }
    due(10, "the third stays", x.read(1, 1), Long.MIN_VALUE);
    due(10, "often", x.often(OrreryWorks.ZERO), 4);
    x.load(0, 0, -7);
    x.load(4, 0, 2);
    due(10, "cut towards 0", x.work(3, 0, 4, 3), 1);
    due(10, "read", x.read(3, 3), bits(-3.0));
    due(10, "the rest has the first one's sign", x.work(4, 0, 4, 3), 1);
    due(10, "read", x.read(3, 3), bits(-1.0));
    due(10, "what -1", x.work(-1, 0, 0, 0), OrreryWorks.BAD);
    due(10, "what 5", x.work(5, 0, 0, 0), OrreryWorks.BAD);
    due(10, "a", x.work(0, 5, 0, 0), OrreryWorks.BAD);
    due(10, "b", x.work(0, 0, -1, 0), OrreryWorks.BAD);
    due(10, "to", x.work(0, 0, 0, 5), OrreryWorks.BAD);
  }

  private static void workReals() {
    OrreryWorks x = withRegisters();
    x.load(2, 2, bits(0.1f));
    x.load(1, 1, 16777217L);
    due(10, "long and float are floats", x.work(0, 1, 2, 3), 1);
    due(10, "read", x.read(3, 3), bits((double) (16777216.0f + 0.1f)));
    x.load(3, 3, bits(0.1));
    due(10, "float and double are doubles", x.work(1, 2, 3, 3), 1);
    due(10, "read", x.read(3, 3), bits((double) 0.1f - 0.1));
    x.load(3, 3, bits(1.0E300));
    due(10, "endless by overflow", x.work(2, 3, 3, 3), 1);
    due(10, "read", x.read(3, 3), bits(ENDLESS));
    x.load(3, 3, bits(-0.0));
    due(10, "float by 0 is endless", x.work(3, 2, 3, 2), 1);
    due(10, "read", x.read(2, 2), bits(Float.NEGATIVE_INFINITY));
    x.load(2, 2, bits(-7.5f));
    x.load(0, 0, 2);
    due(10, "rest of floats", x.work(4, 2, 0, 2), 1);
    due(10, "read", x.read(2, 2), bits(-1.5f));
    x.load(3, 3, bits(ENDLESS));
    due(10, "rest by an endless one", x.work(4, 2, 3, 3), 1);
    due(10, "read", x.read(3, 3), bits(-1.5));
    x.load(3, 3, bits(2.0));
    x.register(3);
    for (long least = 1; least <= 64; least++) {
      x.load(4, 3, least);
      due(10, "rest by one of the least doubles", x.work(4, 3, 4, 4), 1);
      due(10, "read, by " + least, x.read(4, 3), bits(2.0 % Double.longBitsToDouble(least)));
    }
    x.load(2, 2, bits(-6.0f));
    due(10, "rest 0 keeps the sign", x.work(4, 2, 0, 2), 1);
    due(10, "read", x.read(2, 2), bits(-0.0f));
    x.load(3, 3, bits(5.0E9));
    due(10, "into an int", x.work(0, 3, 3, 0), 1);
    due(10, "read", x.read(0, 0), Integer.MAX_VALUE);
  }

  private static void workVoid() {
    double[] values = {0.0, -0.0, 1.0, -1.0, ENDLESS, -ENDLESS};
    for (int kind = 2; kind <= 3; kind++) {
      OrreryWorks x = withRegisters();
      x.register(kind);
      int voids = 0;
      for (double a : values) {
        for (double b : values) {
          x.load(kind, 3, bits(a));
          x.load(4, 3, bits(b));
          double[] came = {a + b, a - b, a * b, a / b, a % b};
          for (int what = 0; what <= 4; what++) {
            boolean isVoid = Double.isNaN(came[what]);
            if (isVoid) voids++;
            due(10, a + " " + what + " " + b, x.work(what, kind, 4, 0), isVoid ? OrreryWorks.VOID : 1);
          }
        }
        due(10, "often VOID", x.often(OrreryWorks.VOID), voids);
        x = withRegisters();
        x.register(kind);
        voids = 0;
      }
    }
  }

  private static void strip() {
    OrreryWorks x = new OrreryWorks();
    due(11, "lane -1", x.strip(-1, 1), OrreryWorks.BAD);
    due(11, "lane 4", x.strip(4, 1), OrreryWorks.BAD);
    due(11, "n -1", x.strip(0, -1), OrreryWorks.BAD);
    due(11, "n 17", x.strip(0, 17), OrreryWorks.BAD);
    for (int i = 0; i < 8; i++) due(11, "strip", x.strip(i % 4, i % 2 == 0 ? 16 : 0), i);
    due(11, "0 at first", x.kept(2, 2, 15), 0);
    due(11, "a ninth", x.strip(0, 1), OrreryWorks.FULL);
    due(11, "tear", x.tear(0), 1);
    due(11, "a gone one still counts", x.strip(0, 1), OrreryWorks.FULL);
    due(11, "BAD before FULL", x.strip(0, 17), OrreryWorks.BAD);
  }

  private static void tear() {
    OrreryWorks x = new OrreryWorks();
    x.strip(1, 3);
    due(12, "tear", x.tear(0), 1);
    due(12, "again", x.tear(0), 0);
    due(12, "is no refusal", x.refused(), 0);
    due(12, "strip 1", x.tear(1), OrreryWorks.BAD);
    due(12, "strip -1", x.tear(-1), OrreryWorks.BAD);
    due(12, "count", x.count(2), 1);
  }

  private static void keep() {
    OrreryWorks x = withRegisters();
    for (int lane = 0; lane <= 3; lane++) x.strip(lane, 2);
    x.load(3, 3, bits(-1.0E10));
    long[] want = {Integer.MIN_VALUE, -10000000000L, bits(-1.0E10f), bits(-1.0E10)};
    for (int lane = 0; lane <= 3; lane++) {
      due(13, "keep", x.keep(lane, lane, 1, 3), 1);
      due(13, "kept", x.kept(lane, lane, 1), want[lane]);
      due(13, "the other place", x.kept(lane, lane, 0), 0);
      for (int other = 0; other <= 3; other++) {
        if (other != lane) due(13, "another lane", x.keep(lane, other, 9, 3), OrreryWorks.CAST);
      }
      due(13, "place 2", x.keep(lane, lane, 2, 3), OrreryWorks.INDEX);
      due(13, "place -1", x.keep(lane, lane, -1, 3), OrreryWorks.INDEX);
      x.tear(lane);
      for (int any = 0; any <= 3; any++) due(13, "gone", x.keep(lane, any, 9, 3), OrreryWorks.NULL);
    }
    due(13, "strip 4", x.keep(4, 0, 0, 0), OrreryWorks.BAD);
    due(13, "lane 4", x.keep(0, 4, 0, 0), OrreryWorks.BAD);
    due(13, "lane -1", x.keep(0, -1, 0, 0), OrreryWorks.BAD);
    due(13, "BAD before CAST, NULL, INDEX", x.keep(0, 0, 9, 4), OrreryWorks.BAD);
    due(13, "often CAST", x.often(OrreryWorks.CAST), 12);
    due(13, "often NULL", x.often(OrreryWorks.NULL), 16);
    due(13, "often INDEX", x.often(OrreryWorks.INDEX), 8);
  }

  private static void kept() {
    OrreryWorks x = withRegisters();
    x.strip(2, 1);
    x.strip(1, 0);
    x.load(0, 0, -3);
    x.keep(0, 2, 0, 0);
    due(14, "kept", x.kept(0, 2, 0), bits(-3.0f));
    due(14, "refused", x.refused(), 0);
    dueRefused(14, "another lane", x, x.kept(0, 3, 5), OrreryWorks.CAST);
    dueRefused(14, "place 1", x, x.kept(0, 2, 1), OrreryWorks.INDEX);
    dueRefused(14, "place -1", x, x.kept(0, 2, -1), OrreryWorks.INDEX);
    dueRefused(14, "no place", x, x.kept(1, 1, 0), OrreryWorks.INDEX);
    dueRefused(14, "lane 4", x, x.kept(0, 4, 0), OrreryWorks.BAD);
    dueRefused(14, "strip 2", x, x.kept(2, 2, 0), OrreryWorks.BAD);
    x.tear(0);
    dueRefused(14, "gone", x, x.kept(0, 1, 5), OrreryWorks.NULL);
    dueRefused(14, "gone, lane -1", x, x.kept(0, -1, 5), OrreryWorks.BAD);
  }

  private static void fill(OrreryWorks x, int strip, int lane, double... values) {
    for (int i = 0; i < values.length; i++) {
      x.load(3, 3, bits(values[i]));
      x.keep(strip, lane, i, 3);
    }
  }

  private static void rests() {
    OrreryWorks x = withRegisters();
    x.strip(3, 8);
    fill(x, 0, 3, 7.5, -2.0, 0.0, 5.0, ENDLESS, 3.0, 2.0, -0.0);
    // 7.5 by -2; -2 by 0 not; 0 by 5; 5 by an endless one; an endless one by 3 not; 3 by 2; 2 by -0.0 not
    due(15, "rests", x.rests(0, 1), 4);
    due(15, "read", x.read(1, 1), 7);
    due(15, "rests", x.rests(0, 3), 4);
    due(15, "read", x.read(3, 3), bits(7.5));
    x.strip(2, 3);
    fill(x, 1, 2, 16777216.0, ENDLESS, 1.0);
    due(15, "one rest", x.rests(1, 3), 1);
    due(15, "read", x.read(3, 3), bits(16777216.0));
    x.strip(2, 4);
    fill(x, 2, 2, 16777216.0, 16777220.0, 16777219.0, 16777216.0);
    due(15, "added in floats", x.rests(2, 3), 3);
    due(15, "read", x.read(3, 3), bits((double) (16777216.0f + 16777220.0f % 16777219.0f + 16777219.0f % 16777216.0f)));
    x.strip(3, 2);
    fill(x, 3, 3, -4.0, 2.0);
    due(15, "from 0.0 on", x.rests(3, 3), 1);
    due(15, "read", x.read(3, 3), bits(0.0));
    x.strip(3, 5);
    fill(x, 4, 3, Double.MAX_VALUE, ENDLESS, Double.MAX_VALUE, ENDLESS, -ENDLESS);
    due(15, "the rests come to an endless one", x.rests(4, 3), 2);
    due(15, "read", x.read(3, 3), bits(ENDLESS));
    x.strip(2, 1);
    x.load(3, 3, bits(9.0));
    due(15, "one place", x.rests(5, 3), 0);
    due(15, "read", x.read(3, 3), 0);
    x.strip(0, 2);
    x.strip(1, 2);
    x.load(3, 3, bits(9.0));
    due(15, "ints", x.rests(6, 3), OrreryWorks.CAST);
    due(15, "longs", x.rests(7, 3), OrreryWorks.CAST);
    x.tear(6);
    due(15, "gone", x.rests(6, 3), OrreryWorks.NULL);
    due(15, "strip 8", x.rests(8, 3), OrreryWorks.BAD);
    due(15, "register 4", x.rests(6, 4), OrreryWorks.BAD);
    due(15, "read", x.read(3, 3), bits(9.0));
  }

  private static void pointer() {
    OrreryWorks x = new OrreryWorks();
    due(16, "no wheel", x.pointer(0, 0), OrreryWorks.BAD);
    x.wheel(3, bits(1.0));
    due(16, "wheel -1", x.pointer(0, -1), OrreryWorks.BAD);
    due(16, "sort -1", x.pointer(-1, 0), OrreryWorks.BAD);
    due(16, "sort 4", x.pointer(4, 0), OrreryWorks.BAD);
    for (int i = 0; i < 12; i++) due(16, "pointer", x.pointer(i % 4, 0), i);
    due(16, "a thirteenth", x.pointer(0, 0), OrreryWorks.FULL);
    due(16, "BAD before FULL", x.pointer(0, 1), OrreryWorks.BAD);
  }

  private static void stand() {
    OrreryWorks x = new OrreryWorks();
    due(17, "sort -1", x.stand(-1, 1), OrreryWorks.BAD);
    due(17, "sort 4", x.stand(4, 1), OrreryWorks.BAD);
    due(17, "n 0", x.stand(0, 0), OrreryWorks.BAD);
    due(17, "n 7", x.stand(0, 7), OrreryWorks.BAD);
    for (int i = 0; i < 8; i++) due(17, "stand", x.stand(i % 4, i % 2 == 0 ? 1 : 6), i);
    dueRefused(17, "bare at first", x, x.show(1, 5), OrreryWorks.NULL);
    due(17, "a ninth", x.stand(0, 1), OrreryWorks.FULL);
    due(17, "BAD before FULL", x.stand(0, 0), OrreryWorks.BAD);
  }

  private static void set() {
    int one = 1;
    int store = OrreryWorks.STORE;
    int cast = OrreryWorks.CAST;
    int[][] want = {{one, one, one, cast}, {store, one, one, cast}, {store, store, one, cast}, {cast, cast, cast, cast}};
    OrreryWorks x = withStands();
    for (int stand = 0; stand <= 3; stand++) {
      for (int pointer = 0; pointer <= 3; pointer++) {
        due(18, "set(" + stand + ", 0, " + pointer + ")", x.set(stand, 0, pointer), want[stand][pointer]);
      }
      due(18, "nothing", x.set(stand, 0, OrreryWorks.NONE), stand == 3 ? cast : 1);
      due(18, "pointer 4", x.set(stand, 0, 4), OrreryWorks.BAD);
      due(18, "pointer -2", x.set(stand, 0, -2), OrreryWorks.BAD);
    }
    dueRefused(18, "bare again", x, x.show(0, 0), OrreryWorks.NULL);
    due(18, "INDEX before STORE", x.set(2, 3, 0), OrreryWorks.INDEX);
    due(18, "INDEX of nothing", x.set(0, -1, OrreryWorks.NONE), OrreryWorks.INDEX);
    due(18, "CAST before INDEX", x.set(0, 3, 3), cast);
    due(18, "CAST before INDEX", x.set(3, 3, OrreryWorks.NONE), cast);
    due(18, "stand 4", x.set(4, 0, 0), OrreryWorks.BAD);
    due(18, "stand -1", x.set(-1, 0, 0), OrreryWorks.BAD);
    due(18, "often STORE", x.often(store), 3);
  }

  private static void hang() {
    int one = 1;
    int store = OrreryWorks.STORE;
    int[][] want = {{one, one, one, store}, {store, one, one, store}, {store, store, one, store}, {one, one, one, one}};
    OrreryWorks x = withStands();
    for (int stand = 0; stand <= 3; stand++) {
      for (int pointer = 0; pointer <= 3; pointer++) {
        due(19, "hang(" + stand + ", 2, " + pointer + ")", x.hang(stand, 2, pointer), want[stand][pointer]);
      }
      due(19, "nothing", x.hang(stand, 2, OrreryWorks.NONE), 1);
      due(19, "pointer 4", x.hang(stand, 2, 4), OrreryWorks.BAD);
      due(19, "pointer -2", x.hang(stand, 2, -2), OrreryWorks.BAD);
    }
    dueRefused(19, "bare again", x, x.show(3, 2), OrreryWorks.NULL);
    due(19, "INDEX before STORE", x.hang(0, 3, 3), OrreryWorks.INDEX);
    due(19, "INDEX of nothing", x.hang(3, -1, OrreryWorks.NONE), OrreryWorks.INDEX);
    due(19, "stand 4", x.hang(4, 0, 0), OrreryWorks.BAD);
    due(19, "stand -1", x.hang(-1, 0, 0), OrreryWorks.BAD);
  }

  private static void show() {
    OrreryWorks x = withStands();
    x.turn(1, bits(-12.3456));
    x.stand(3, 6);
    for (int pointer = 0; pointer <= 3; pointer++) x.hang(4, pointer, pointer);
    due(20, "coarse", x.show(4, 0), -12);
    due(20, "fine", x.show(4, 1), -12345);
    due(20, "vernier", x.show(4, 2), bits(-12345.0f));
    due(20, "lamp", x.show(4, 3), 1);
    due(20, "refused", x.refused(), 0);
    dueRefused(20, "bare", x, x.show(4, 5), OrreryWorks.NULL);
    dueRefused(20, "place 6", x, x.show(4, 6), OrreryWorks.INDEX);
    dueRefused(20, "place -1", x, x.show(4, -1), OrreryWorks.INDEX);
    dueRefused(20, "stand 5", x, x.show(5, 0), OrreryWorks.BAD);
    x.turn(1, bits(12.3456));
    due(20, "lamp at 0.0", x.show(4, 3), 0);
    x.turn(1, bits(-100.0));
    due(20, "lamp at -0.0", x.show(4, 3), 1);
    x.wheel(3, bits(ENDLESS));
    x.turn(2, bits(1.0E306));
    for (int sort = 0; sort <= 2; sort++) {
      int pointer = x.pointer(sort, 2);
      x.hang(4, sort, pointer);
    }
    due(20, "coarse, cut", x.show(4, 0), Integer.MAX_VALUE);
    due(20, "fine, cut", x.show(4, 1), Long.MAX_VALUE);
    due(20, "vernier", x.show(4, 2), bits((float) Long.MAX_VALUE));
    x.turn(0, bits(0.1));
    x.hang(4, 0, x.pointer(1, 0));
    due(20, "floats as doubles", x.show(4, 0), 100);
    x.turn(0, bits(33.333));
    due(20, "floats as doubles", x.show(4, 0), (long) ((double) (0.1f + 33.333f) * 1000.0));
  }

  private static void all() {
    OrreryWorks x = withStands();
    due(21, "bare", x.all(3), 0);
    due(21, "refused", x.refused(), 0);
    x.turn(1, bits(-1.5));
    x.hang(3, 0, 0);
    x.hang(3, 2, 3);
    due(21, "coarse and lamp", x.all(3), 0);
    x.hang(3, 0, 1);
    due(21, "fine and lamp", x.all(3), -1499);
    x.hang(3, 1, 1);
    due(21, "a pointer twice", x.all(3), -2999);
    x.wheel(3, bits(ENDLESS));
    x.turn(2, bits(1.0E300));
    int far = x.pointer(1, 2);
    x.hang(1, 0, far);
    x.hang(1, 1, far);
    due(21, "longs wrap", x.all(1), -2);
    dueRefused(21, "stand 4", x, x.all(4), OrreryWorks.BAD);
    dueRefused(21, "stand -1", x, x.all(-1), OrreryWorks.BAD);
  }

  private static void count() {
    OrreryWorks x = new OrreryWorks();
    x.wheel(2, bits(1.0));
    x.register(0);
    x.register(0);
    for (int i = 0; i < 3; i++) x.strip(0, 0);
    x.tear(1);
    for (int i = 0; i < 4; i++) x.pointer(i, 0);
    for (int i = 0; i < 5; i++) x.stand(0, 1);
    for (int what = 0; what <= 4; what++) due(22, "count(" + what + ")", x.count(what), what + 1);
    due(22, "count(5)", x.count(5), OrreryWorks.BAD);
    due(22, "count(-1)", x.count(-1), OrreryWorks.BAD);
    due(22, "is not told by refused", x.refused(), 0);
  }

  private static void often() {
    OrreryWorks x = withStands();
    x.register(0);
    x.register(3);
    x.strip(0, 0);
    x.strip(0, 0);
    x.tear(1);
    for (int i = 0; i < 8; i++) x.wheel(3, bits(1.0));
    x.wheel(3, bits(1.0));
    x.turn(0, bits(ENDLESS));
    x.turn(0, bits(ENDLESS));
    for (int i = 0; i < 3; i++) x.work(3, 1, 1, 1);
    for (int i = 0; i < 4; i++) x.work(4, 0, 0, 0);
    for (int i = 0; i < 5; i++) x.keep(0, 1, 0, 0);
    for (int i = 0; i < 6; i++) x.kept(0, 0, 0);
    for (int i = 0; i < 7; i++) x.hang(0, 0, 3);
    for (int i = 0; i < 8; i++) x.kept(1, 0, 0);
    x.work(9, 9, 9, 9);
    for (int refusal = OrreryWorks.FULL; refusal >= OrreryWorks.NULL; refusal--) {
      due(23, "often(" + refusal + ")", x.often(refusal), -2 - refusal);
    }
    int[] others = {0, 1, 3, OrreryWorks.NONE, OrreryWorks.BAD, -11, Integer.MIN_VALUE, Integer.MAX_VALUE};
    for (int other : others) due(23, "often(" + other + ")", x.often(other), 0);
  }

  private static void refused() {
    OrreryWorks x = new OrreryWorks();
    due(24, "at first", x.refused(), 0);
    x.register(9);
    due(24, "BAD", x.refused(), OrreryWorks.BAD);
    x.count(0);
    x.often(OrreryWorks.FULL);
    x.refused();
    due(24, "still BAD", x.refused(), OrreryWorks.BAD);
    x.register(0);
    due(24, "0", x.refused(), 0);
    x.count(9);
    due(24, "0 after a bad count", x.refused(), 0);
    x.work(3, 0, 0, 0);
    due(24, "ZERO", x.refused(), OrreryWorks.ZERO);
    x.read(0, 0);
    due(24, "0", x.refused(), 0);
  }
}
